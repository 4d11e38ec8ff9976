section
variable {p : Program} {l : Launch} {e : Env} {s : State} {m : MethodId} {below : List Frame} {meth : Method} {c : Code} {H : Heap} {locs : List Loc} {cells slots : Nat} {Q : State → Prop}
variable {ls : Array Slot} {D : va_G} {k : Nat → ClassId} {Γ : Nat → Option Nat} {L : List Nat} {F : Nat → va_E} {b Ln th mo o : Nat} {xs : Nat → Int32} {y fe : Int32}
set_option maxHeartbeats 4000000 in
set_option maxRecDepth 100000 in
theorem law_case_0 (hst : l.stackTraces = false) (Z : zC p m c cL_law 7 s #[Value.ref b] zGL RL D k L) (hX : va_X b Ln xs s s.heap) (hbl : b < s.heap.size) (hbA : ¬ zA L s.heap.size b) (h : zH D k Γ L s F H locs) (hw : zIw Γ F th mo o) (hfe : zFe F th mo fe) (hJ : zJw Γ F th mo fe) (hK : zKw F th mo) (hD : zDw Γ F th mo) (hE : zEw Γ F th mo) (hR : zRw Γ F th mo) (hG : zKl Γ F th mo) (hl : lv_has ls 7 [(4, .int y), (3, .ref o), (2, .ref mo), (1, .ref th), (0, .ref b)]) (h1 : vp_in (y + 1) Ln) (h2 : vp_in (y + 2) Ln) (h3 : vp_in (y + 3) Ln) (h4 : vp_in (y + 4) Ln) (h5 : vp_in (y + 5) Ln) (hrm : cells + 1 ≤ room_1.cells ∧ slots + 6 ≤ room_1.slots) (kk : ∀ (F : Nat → va_E) (H : Heap) (locs : List Loc) (ls : Array Slot) (fe : Int32), zH D k Γ L s F H locs → zIw Γ F th mo o → zFe F th mo fe → zJw Γ F th mo fe → zKw F th mo → zDw Γ F th mo → zEw Γ F th mo → zRw Γ F th mo → zKl Γ F th mo → lv_has ls 7 [(4, .int y), (3, .ref o), (2, .ref mo), (1, .ref th), (0, .ref b)] → W p l e room_1 s m #[Value.ref b] below meth c H locs (cells + 1) (slots + 6) Q (F0 m 970 ls [])) : W p l e room_1 s m #[Value.ref b] below meth c H locs cells slots Q (F0 m 156 ls []) := by
  obtain ⟨hth, hmo, ho, -⟩ := id hw
  have hx := Z.1.1
  have hb := Z.1.2.1
  have hg := Z.1.2.2.2.2
  have hcs : cells ≤ room_1.cells ∧ slots ≤ room_1.slots := ⟨Nat.le_trans (Nat.le_add_right _ _) hrm.1, Nat.le_trans (Nat.le_add_right _ _) hrm.2⟩
  refine lv_aload_n hx hb dL_law_156 rfl (lv_at hl 3 rfl) ?_
  refine lv_aload_n hx hb dL_law_157 rfl (lv_at hl 4 rfl) ?_
  refine lv_iload hx hb dL_law_158 (lv_at hl 0 rfl) ?_
  refine lv_iconst (v := 1) hx hb dL_law_160 (by decide) ?_
  refine lv_iadd hx hb dL_law_161 ?_
  refine va_sld hx hb hX hbl hbA h.2.2 (i := y + 1) h1 dL_law_162 ?_
  refine lv_topi (fun x1 ex1 => ?_)
  refine lv_aload_n hx hb dL_law_163 rfl (lv_at hl 4 rfl) ?_
  refine lv_iload hx hb dL_law_164 (lv_at hl 0 rfl) ?_
  refine lv_iconst (v := 2) hx hb dL_law_166 (by decide) ?_
  refine lv_iadd hx hb dL_law_167 ?_
  refine va_sld hx hb hX hbl hbA h.2.2 (i := y + 2) h2 dL_law_168 ?_
  refine lv_topi (fun x2 ex2 => ?_)
  refine lv_aload_n hx hb dL_law_169 rfl (lv_at hl 4 rfl) ?_
  refine lv_iload hx hb dL_law_170 (lv_at hl 0 rfl) ?_
  refine lv_iconst (v := 3) hx hb dL_law_172 (by decide) ?_
  refine lv_iadd hx hb dL_law_173 ?_
  refine va_sld hx hb hX hbl hbA h.2.2 (i := y + 3) h3 dL_law_174 ?_
  refine lv_topi (fun x3 ex3 => ?_)
  refine lv_aload_n hx hb dL_law_175 rfl (lv_at hl 4 rfl) ?_
  refine lv_iload hx hb dL_law_176 (lv_at hl 0 rfl) ?_
  refine lv_iconst (v := 4) hx hb dL_law_178 (by decide) ?_
  refine lv_iadd hx hb dL_law_179 ?_
  refine va_sld hx hb hX hbl hbA h.2.2 (i := y + 4) h4 dL_law_180 ?_
  refine lv_topi (fun x4 ex4 => ?_)
  refine lv_aload_n hx hb dL_law_181 rfl (lv_at hl 4 rfl) ?_
  refine lv_iload hx hb dL_law_182 (lv_at hl 0 rfl) ?_
  refine lv_iconst (v := 5) hx hb dL_law_184 (by decide) ?_
  refine lv_iadd hx hb dL_law_185 ?_
  refine va_sld hx hb hX hbl hbA h.2.2 (i := y + 5) h5 dL_law_186 ?_
  refine lv_topi (fun x5 ex5 => ?_)
  have hIp1 := h.2.1
  obtain ⟨pn, sn, tc, tp, fa, fb, la, lb, Ln9, Ls9, j2, j3, hF2, ⟨hPa, hPb⟩, ⟨hLa, hLb⟩, ⟨k0, htc⟩, ⟨k10, htp⟩, heq⟩ := id hJ
  have hpn := hF2.1.2.1
  have hsn := hF2.2.1.2.1
  refine zk_Vi (As := [.int x1, .int x2, .int x3, .int x4, .int x5]) (rest := []) (bytes := cX10_feed) (maxL := 6) (ret := (some .int)) Z h (zc_X10_feed l D k Γ L F H.size th x1 x2 x3 x4 x5 tc fe hth k0 htc hfe.1 hfe.2.2) (cwV 5 hg zv_RLl_26 rfl rfl rfl (by decide +kernel) ⟨(Nat.le_of_ble_eq_true rfl), (Nat.le_of_ble_eq_true rfl)⟩) hth (by decide) rfl rfl hl.1 rfl (Nat.le_of_ble_eq_true rfl) dL_law_187 hcs (fun r1 F1 H locs w h hf1 => ?_)
  obtain ⟨⟨f9, kf9, bf9, cf9⟩, w2, -⟩ := w
  have hw := hw.fr hf1 (by unfold zMok; decide +kernel)
  have hmf : zfld F1 mo 11 = .int fe := hf1.f hmo 11 ⟨by decide, by decide⟩ hfe.2.1
  have hG := hG.fr hIp1 hf1 hth hmo ⟨⟨by decide, by decide⟩, (by unfold zKoF; decide +kernel), (by unfold zKoV; decide +kernel), (by unfold zKoT; decide +kernel)⟩
  have hR := hR.fr hf1 hth hmo ⟨(by unfold zRom; decide +kernel), (by decide +kernel), ⟨⟨(by unfold zMC; decide +kernel), (by unfold zMK; decide +kernel)⟩, (by decide +kernel)⟩, ⟨(by unfold zXM; decide +kernel), (by decide +kernel)⟩⟩
  refine lv_pop hx hb dL_law_190 rfl ?_
  refine lv_aload_n hx hb dL_law_191 rfl (lv_at hl 2 rfl) ?_
  refine lv_aload_n hx hb dL_law_192 rfl (lv_at hl 4 rfl) ?_
  refine lv_iload hx hb dL_law_193 (lv_at hl 0 rfl) ?_
  refine lv_iconst (v := 1) hx hb dL_law_195 (by decide) ?_
  refine lv_iadd hx hb dL_law_196 ?_
  refine va_sld hx hb hX hbl hbA h.2.2 (i := y + 1) h1 dL_law_197 ?_
  refine lv_topi (fun x6 ex6 => ?_)
  refine lv_aload_n hx hb dL_law_198 rfl (lv_at hl 4 rfl) ?_
  refine lv_iload hx hb dL_law_199 (lv_at hl 0 rfl) ?_
  refine lv_iconst (v := 2) hx hb dL_law_201 (by decide) ?_
  refine lv_iadd hx hb dL_law_202 ?_
  refine va_sld hx hb hX hbl hbA h.2.2 (i := y + 2) h2 dL_law_203 ?_
  refine lv_topi (fun x7 ex7 => ?_)
  refine lv_aload_n hx hb dL_law_204 rfl (lv_at hl 4 rfl) ?_
  refine lv_iload hx hb dL_law_205 (lv_at hl 0 rfl) ?_
  refine lv_iconst (v := 3) hx hb dL_law_207 (by decide) ?_
  refine lv_iadd hx hb dL_law_208 ?_
  refine va_sld hx hb hX hbl hbA h.2.2 (i := y + 3) h3 dL_law_209 ?_
  refine lv_topi (fun x8 ex8 => ?_)
  refine lv_aload_n hx hb dL_law_210 rfl (lv_at hl 4 rfl) ?_
  refine lv_iload hx hb dL_law_211 (lv_at hl 0 rfl) ?_
  refine lv_iconst (v := 4) hx hb dL_law_213 (by decide) ?_
  refine lv_iadd hx hb dL_law_214 ?_
  refine va_sld hx hb hX hbl hbA h.2.2 (i := y + 4) h4 dL_law_215 ?_
  refine lv_topi (fun x9 ex9 => ?_)
  refine lv_aload_n hx hb dL_law_216 rfl (lv_at hl 4 rfl) ?_
  refine lv_iload hx hb dL_law_217 (lv_at hl 0 rfl) ?_
  refine lv_iconst (v := 5) hx hb dL_law_219 (by decide) ?_
  refine lv_iadd hx hb dL_law_220 ?_
  refine va_sld hx hb hX hbl hbA h.2.2 (i := y + 5) h5 dL_law_221 ?_
  refine lv_topi (fun x10 ex10 => ?_)
  obtain ⟨-, -, -, pr, pq, sp, Lp, Lq, Ls, k4, k5, k6, hP, hMI⟩ := id hw
  have ktp := hf1.f hmo 10 ⟨by decide, by decide⟩ k10
  have hIp2 := h.2.1
  refine zk_Vi (As := [.int x6, .int x7, .int x8, .int x9, .int x10]) (rest := []) (bytes := cX14_feed) (maxL := 8) (ret := (some .int)) Z h (zc_X14_feed l D k Γ L F1 H.size mo x6 x7 x8 x9 x10 tp fe hmo ktp htp hmf hfe.2.2) (cwV 5 hg zv_RLl_30 rfl rfl rfl (by decide +kernel) ⟨(Nat.le_of_ble_eq_true rfl), (Nat.le_of_ble_eq_true rfl)⟩) hmo (by decide) rfl rfl hl.1 rfl (Nat.le_of_ble_eq_true rfl) dL_law_222 hcs (fun r2 F2 H locs w h hf2 => ?_)
  obtain ⟨⟨g9, kg9, bg9, cg9⟩, v2, -⟩ := w
  obtain ⟨e9, er⟩ := z_fed cf9 cg9
  subst e9
  have e11 : x6 = x1 := ex6.trans ex1.symm
  have e12 : x7 = x2 := ex7.trans ex2.symm
  have e13 : x8 = x3 := ex8.trans ex3.symm
  have e14 : x9 = x4 := ex9.trans ex4.symm
  have e15 : x10 = x5 := ex10.trans ex5.symm
  rw [e11, e12, e13, e14, e15] at v2
  have heq9 := z_fdeq heq w2 (hf2.elf htc ⟨by decide, by decide⟩) (hf1.elf htp ⟨by decide, by decide⟩) v2 cf9
  have hJ := zJw.feed j2 j3 hF2 ⟨hPa, hPb⟩ ⟨hLa, hLb⟩ k0 htc k10 htp hf1 hf2 hth hmo (by unfold zJo4; decide +kernel) (by unfold zJo4; decide +kernel) heq9
  have hD := (hD.fr hf1 hth hmo (by unfold zDok; exact ⟨by decide, by unfold zDo1; decide +kernel, by unfold zDo2; decide +kernel, by unfold zDo0; decide, by unfold zDo3; decide⟩) (by unfold zDck; decide)).fr hf2 hth hmo (by unfold zDok; exact ⟨by decide, by unfold zDo1; decide +kernel, by unfold zDo2; decide +kernel, by unfold zDo0; decide, by unfold zDo3; decide⟩) (by unfold zDck; decide)
  have hE := (hE.fr hf1 hth hmo (by unfold zEok; exact ⟨by unfold zEo1; decide, by unfold zEo2; decide, by unfold zEo3; decide +kernel, by unfold zNpM; decide⟩)).fr hf2 hth hmo (by unfold zEok; exact ⟨by unfold zEo1; decide, by unfold zEo2; decide, by unfold zEo3; decide +kernel, by unfold zNpM; decide⟩)
  have hK := (hK.fr hf1 hth hmo (by decide)).fr hf2 hth hmo (by decide)
  have hw := hw.fr hf2 (by unfold zMok; decide +kernel)
  have hfe : zFe F2 th mo f9 := ⟨hf2.f hth 1 ⟨by decide, by decide⟩ kf9, kg9, bf9⟩
  have hG := hG.fr hIp2 hf2 hth hmo ⟨⟨by decide, by decide⟩, (by unfold zKoF; decide +kernel), (by unfold zKoV; decide +kernel), (by unfold zKoT; decide +kernel)⟩
  have hR := hR.fr hf2 hth hmo ⟨(by unfold zRom; decide +kernel), (by decide +kernel), ⟨⟨(by unfold zMC; decide +kernel), (by unfold zMK; decide +kernel)⟩, (by decide +kernel)⟩, ⟨(by unfold zXM; decide +kernel), (by decide +kernel)⟩⟩
  refine lv_pop hx hb dL_law_225 rfl ?_
  refine lv_goto (tgt := 970) hx hb dL_law_226 (by decide) ?_
  refine W.widen (k := cells + 1) (n := slots + 6) (Nat.le_add_right _ _) (Nat.le_add_right _ _) ?_
  exact kk F2 H locs ls f9 h hw hfe hJ hK hD hE hR hG hl

set_option maxHeartbeats 4000000 in
set_option maxRecDepth 100000 in
theorem law_case_1 (hst : l.stackTraces = false) (Z : zC p m c cL_law 7 s #[Value.ref b] zGL RL D k L) (hX : va_X b Ln xs s s.heap) (hbl : b < s.heap.size) (hbA : ¬ zA L s.heap.size b) (h : zH D k Γ L s F H locs) (hw : zIw Γ F th mo o) (hfe : zFe F th mo fe) (hJ : zJw Γ F th mo fe) (hK : zKw F th mo) (hD : zDw Γ F th mo) (hE : zEw Γ F th mo) (hR : zRw Γ F th mo) (hG : zKl Γ F th mo) (hl : lv_has ls 7 [(4, .int y), (3, .ref o), (2, .ref mo), (1, .ref th), (0, .ref b)]) (h1 : vp_in (y + 1) Ln) (h2 : vp_in (y + 2) Ln) (h3 : vp_in (y + 3) Ln) (h4 : vp_in (y + 4) Ln) (h5 : vp_in (y + 5) Ln) (hrm : cells + 1 ≤ room_1.cells ∧ slots + 6 ≤ room_1.slots) (kk : ∀ (F : Nat → va_E) (H : Heap) (locs : List Loc) (ls : Array Slot) (fe : Int32), zH D k Γ L s F H locs → zIw Γ F th mo o → zFe F th mo fe → zJw Γ F th mo fe → zKw F th mo → zDw Γ F th mo → zEw Γ F th mo → zRw Γ F th mo → zKl Γ F th mo → lv_has ls 7 [(4, .int y), (3, .ref o), (2, .ref mo), (1, .ref th), (0, .ref b)] → W p l e room_1 s m #[Value.ref b] below meth c H locs (cells + 1) (slots + 6) Q (F0 m 970 ls [])) : W p l e room_1 s m #[Value.ref b] below meth c H locs cells slots Q (F0 m 229 ls []) := by
  obtain ⟨hth, hmo, ho, -⟩ := id hw
  have hx := Z.1.1
  have hb := Z.1.2.1
  have hg := Z.1.2.2.2.2
  have hcs : cells ≤ room_1.cells ∧ slots ≤ room_1.slots := ⟨Nat.le_trans (Nat.le_add_right _ _) hrm.1, Nat.le_trans (Nat.le_add_right _ _) hrm.2⟩
  refine lv_aload_n hx hb dL_law_229 rfl (lv_at hl 3 rfl) ?_
  refine lv_aload_n hx hb dL_law_230 rfl (lv_at hl 4 rfl) ?_
  refine lv_iload hx hb dL_law_231 (lv_at hl 0 rfl) ?_
  refine lv_iconst (v := 1) hx hb dL_law_233 (by decide) ?_
  refine lv_iadd hx hb dL_law_234 ?_
  refine va_sld hx hb hX hbl hbA h.2.2 (i := y + 1) h1 dL_law_235 ?_
  refine lv_topi (fun x1 ex1 => ?_)
  have hIp1 := h.2.1
  obtain ⟨pn, sn, tc, tp, fa, fb, la, lb, Ln9, Ls9, j2, j3, hF2, ⟨hPa, hPb⟩, ⟨hLa, hLb⟩, ⟨k0, htc⟩, ⟨k10, htp⟩, heq⟩ := id hJ
  have hpn := hF2.1.2.1
  have hsn := hF2.2.1.2.1
  obtain ⟨h3R, pnR, snR, prR, faR, fbR, laR, fcR, izR, hVR⟩ := id hR
  have enR : pnR = pn := Value.ref.inj (hVR.1.1.symm.trans j2)
  subst pnR
  have esR : snR = sn := Value.ref.inj (hVR.1.2.1.symm.trans j3)
  subst snR
  have hVR := hVR.sp hPb
  obtain ⟨pn9, to, pr9, fa9, la9, fc, lc, sz_, is_, hDx, hDc⟩ := id hD
  obtain ⟨cv, ch, kn, q1, q2, q3, q4, q5, q6, q7, q8⟩ := id hDc
  have bkn : zB 0 1 kn := z_bd h q4 (by decide) rfl q5
  have en9 : pn9 = pn := Value.ref.inj (hDx.1.1.symm.trans j2)
  subst pn9
  have hto := hDx.2.1.2.1
  have kto := hDx.1.2.1
  have bfc : zB 0 10 fc := z_bd h hpn (by decide) rfl hDx.2.2.1.1
  have blc : zB 0 60 lc := z_bd h hpn (by decide) rfl hDx.2.2.1.2.1
  have bsz : zB 0 12 sz_ := z_bd h hto (by decide) rfl hDx.2.2.2.1
  obtain ⟨pnE, gr, prE, paE, tkE, nE, NE, BE, faE, fcE, izE, ipE, xE, hEx⟩ := id hE
  have enE : pnE = pn := Value.ref.inj (hEx.1.1.symm.trans j2)
  subst pnE
  have bfE : zB 0 10 fcE := z_bd h hpn (by decide) rfl hEx.2.2.1.1
  refine zk_Vi (As := [.int x1]) (rest := []) (bytes := cX10_program) (maxL := 2) (ret := (some .int)) Z h (zc_X10_program l D k Γ L F H.size th x1 tc pn sn to ch fe fb Ln9 Ls9 lb gr fcE tkE BE nE NE faE (fun g => (zal F prE 4 g).toInt) hth k0 htc j2 hpn j3 hsn kto hto q3 q4 hfe.1 hfe.2.2 hPb hF2 hLb hEx.1.2.1 hEx.2.1.2.1 hEx.2.2.1.1 bfE ⟨hEx.2.1.2.2.2.2.2.2, hEx.2.2.2.1⟩ hVR.2.2.1.2.2.2.1) (cwV 1 hg zv_RLl_31 rfl rfl rfl (by decide +kernel) ⟨(Nat.le_of_ble_eq_true rfl), (Nat.le_of_ble_eq_true rfl)⟩) hth (by decide) rfl rfl hl.1 rfl (Nat.le_of_ble_eq_true rfl) dL_law_236 hcs (fun r1 F1 H locs w h hf1 => ?_)
  obtain ⟨⟨f9, kf9, bf9, cf9⟩, w2, wh1, -⟩ := w
  have hw := hw.fr hf1 (by unfold zMok; decide +kernel)
  have hmf : zfld F1 mo 11 = .int fe := hf1.f hmo 11 ⟨by decide, by decide⟩ hfe.2.1
  refine lv_pop hx hb dL_law_239 rfl ?_
  refine lv_aload_n hx hb dL_law_240 rfl (lv_at hl 2 rfl) ?_
  refine lv_aload_n hx hb dL_law_241 rfl (lv_at hl 4 rfl) ?_
  refine lv_iload hx hb dL_law_242 (lv_at hl 0 rfl) ?_
  refine lv_iconst (v := 1) hx hb dL_law_244 (by decide) ?_
  refine lv_iadd hx hb dL_law_245 ?_
  refine va_sld hx hb hX hbl hbA h.2.2 (i := y + 1) h1 dL_law_246 ?_
  refine lv_topi (fun x2 ex2 => ?_)
  obtain ⟨-, -, -, pr, pq, sp, Lp, Lq, Ls, k4, k5, k6, hP, hMI⟩ := id hw
  obtain ⟨st, kst, hst9⟩ := z_rf (j := 9) (n := 13) h.2.1 hmo (by decide) rfl
  have ktp := hf1.f hmo 10 ⟨by decide, by decide⟩ k10
  have hIp2 := h.2.1
  have erR : prR = pr := Value.ref.inj ((hf1.f hmo 4 ⟨by decide, by decide⟩ hVR.1.2.2).symm.trans k4)
  subst prR
  have erE : prE = pr := Value.ref.inj ((hf1.f hmo 4 ⟨by decide, by decide⟩ hEx.1.2.2.1).symm.trans k4)
  subst prE
  have eqE : paE = pq := Value.ref.inj ((hf1.f hmo 5 ⟨by decide, by decide⟩ hEx.1.2.2.2).symm.trans k5)
  subst paE
  have kisE := hf1.f hmo 7 ⟨by decide, by decide⟩ hEx.2.2.1.2.2.1
  have bisE : zB 0 1 izE := z_bd h hmo (by decide) rfl kisE
  have h' : zH D k (zVw Γ (Lp ++ Lq)) L s F1 H locs := ⟨h.1, zview1 h.2.1 hP, h.2.2⟩
  refine zk_VHi (hh := [(43, 47, 50, 26)]) (As := [.int x2]) (rest := []) (bytes := cX14_program) (maxL := 3) (ret := (some .int)) Z h' (zc_X14_program l D k (zVw Γ (Lp ++ Lq)) L F1 H.size mo x2 tp st sp pr pq fe izE (hP.out hmo (by decide)) ktp (hP.out htp (by decide)) kst (hP.out hst9 (by decide)) k6 hP.sp k4 k5 hmf hfe.2.2 kisE bisE) (vx_cwVW 1 hg zv_RLl_34 rfl rfl rfl (by decide +kernel) ⟨(Nat.le_of_ble_eq_true rfl), (Nat.le_of_ble_eq_true rfl)⟩) (hP.out hmo (by decide)) (by decide) rfl rfl hl.1 rfl (Nat.le_of_ble_eq_true rfl) dL_law_247 hcs (fun r2 F2 H locs w h' hf2 => ?_)
  obtain ⟨⟨g9, kg9, bg9, cg9⟩, wp, v2, wh2, -⟩ := w
  have e12 : x2 = x1 := ex2.trans ex1.symm
  rw [e12] at cg9 v2
  have hbR3 := z_bot3 (fun i hi => (heq i hi).trans (by rw [hf1.elf htp ⟨by decide, by decide⟩])) w2 v2
  obtain ⟨er, hbo⟩ := z_both (fun i hi => (heq i hi).trans (by rw [hf1.elf htp ⟨by decide, by decide⟩])) w2 v2
  have e9 := z_fpr cf9 cg9
  subst e9
  obtain ⟨hI2, hfG⟩ := zview2 h.2.1 h'.2.1 hf2
  have hu9 : ∀ a ∈ Lp, F2 a = F1 a := fun a ha => hf2.2 a (by unfold zVw; rw [if_pos (List.mem_append_left _ ha)])
  have hw := zIw.prog hth hmo ho hP hMI hI2 hfG (by decide +kernel) hu9 wp
  have h : zH D k Γ L s F2 H locs := ⟨h'.1, hI2, h'.2.2⟩
  have hK := zKw.prog hth hmo hf1 (by decide) hfG (by decide) hK (z_kw (fun i hi => (heq i hi).trans (by rw [hf1.elf htp ⟨by decide, by decide⟩])) w2 v2)
  have hbq := hbo.imp (fun ⟨d9, g1, g2, g3⟩ => (⟨d9, g1, g2.1, g3.1⟩ : ∃ d, _ ∧ _ ∧ _)) (fun g => (⟨g.1.1, g.2.1⟩ : _ ∧ _))
  have hE := hEx.prog hf1 hfG hth hmo ⟨by decide, by decide, by unfold zEo3; decide +kernel, by decide⟩ ⟨by decide, by unfold zEo2; decide, by unfold zNpM; decide +kernel, by decide +kernel⟩ hF2 hPb hP.2.2.1.2.1 (z_SA hI2 hP.2.2.1.2.1) hu9 (fun a ha => hf2.2 a (by unfold zVw; rw [if_pos (List.mem_append_right _ ha)])) hP.1 hP.2.1 rfl (hbo.imp (fun ⟨d9, g1, g2, g3⟩ => (⟨d9, g1, ⟨g2.1, g2.2.1⟩, g3.1, g3.2.1⟩ : ∃ d, _ ∧ _ ∧ _)) (fun g => g))
  have hD := hDx.prog q1 q2 q3 q4 q5 q6 q7 q8 hf1 hfG hth hmo ⟨by decide, by decide, by decide, by unfold zDo2; decide +kernel, by unfold zDo3; decide⟩ ⟨by decide, by unfold zDo1; decide +kernel, by unfold zDo0; decide, by decide +kernel⟩ (by decide) (by unfold zDck; decide) hsn hPb hLb hF2.1.1 (zPS.in hF2.1 hDx.2.1.2.2.2.1) (zLS.in hF2.1 hDx.2.1.2.2.2.2.1) hP.2.2.1.2.1 (z_SA hI2 hP.2.2.1.2.1) k4 hu9 hP.1 hbq
  have hJ := zJw.prog hF2 ⟨hPa, hPb⟩ ⟨hLa, hLb⟩ k0 htc k10 htp heq hf1 hfG hth hmo (by unfold zJo4; decide +kernel) (by unfold zJok zJo4; decide +kernel) hbq (z_pfe cf9 hfe.2.2)
  have hfe : zFe F2 th mo f9 := ⟨hfG.f hth 1 ⟨by decide, by decide⟩ kf9, kg9, bf9⟩
  have hG := hG.prog hIp1 hIp2 hf1 hfG hth hmo ⟨by decide, by unfold zKoF; decide +kernel, by unfold zKoV; decide +kernel, by unfold zKoT; decide +kernel⟩ ⟨by decide, by unfold zKoF; decide +kernel, by unfold zKoV; decide +kernel, by unfold zKoT; decide +kernel⟩ er wh1 wh2
  have hR := zRw.prog h3R hVR hf1 hfG hth hmo ⟨(by unfold zRom; decide +kernel), ⟨by decide, by decide⟩, by decide +kernel, ⟨(by unfold zXM; decide +kernel), (by decide +kernel)⟩⟩ ⟨(by unfold zRom; decide +kernel), ⟨by decide, by decide⟩, ⟨⟨(by unfold zMC; decide +kernel), (by unfold zMK; decide +kernel)⟩, (by decide +kernel)⟩⟩ hF2 hLb (z_SA hI2 hP.2.2.1.2.1) hP.1 hu9 hbR3
  refine lv_pop hx hb dL_law_250 rfl ?_
  refine lv_goto (tgt := 970) hx hb dL_law_251 (by decide) ?_
  refine W.widen (k := cells + 1) (n := slots + 6) (Nat.le_add_right _ _) (Nat.le_add_right _ _) ?_
  exact kk F2 H locs ls f9 h hw hfe hJ hK hD hE hR hG hl

set_option maxHeartbeats 4000000 in
set_option maxRecDepth 100000 in
theorem law_case_2 (hst : l.stackTraces = false) (Z : zC p m c cL_law 7 s #[Value.ref b] zGL RL D k L) (hX : va_X b Ln xs s s.heap) (hbl : b < s.heap.size) (hbA : ¬ zA L s.heap.size b) (h : zH D k Γ L s F H locs) (hw : zIw Γ F th mo o) (hfe : zFe F th mo fe) (hJ : zJw Γ F th mo fe) (hK : zKw F th mo) (hD : zDw Γ F th mo) (hE : zEw Γ F th mo) (hR : zRw Γ F th mo) (hG : zKl Γ F th mo) (hl : lv_has ls 7 [(4, .int y), (3, .ref o), (2, .ref mo), (1, .ref th), (0, .ref b)]) (h1 : vp_in (y + 1) Ln) (h2 : vp_in (y + 2) Ln) (h3 : vp_in (y + 3) Ln) (h4 : vp_in (y + 4) Ln) (h5 : vp_in (y + 5) Ln) (hrm : cells + 1 ≤ room_1.cells ∧ slots + 6 ≤ room_1.slots) (kk : ∀ (F : Nat → va_E) (H : Heap) (locs : List Loc) (ls : Array Slot) (fe : Int32), zH D k Γ L s F H locs → zIw Γ F th mo o → zFe F th mo fe → zJw Γ F th mo fe → zKw F th mo → zDw Γ F th mo → zEw Γ F th mo → zRw Γ F th mo → zKl Γ F th mo → lv_has ls 7 [(4, .int y), (3, .ref o), (2, .ref mo), (1, .ref th), (0, .ref b)] → W p l e room_1 s m #[Value.ref b] below meth c H locs (cells + 1) (slots + 6) Q (F0 m 970 ls [])) : W p l e room_1 s m #[Value.ref b] below meth c H locs cells slots Q (F0 m 254 ls []) := by
  obtain ⟨hth, hmo, ho, -⟩ := id hw
  have hx := Z.1.1
  have hb := Z.1.2.1
  have hg := Z.1.2.2.2.2
  have hcs : cells ≤ room_1.cells ∧ slots ≤ room_1.slots := ⟨Nat.le_trans (Nat.le_add_right _ _) hrm.1, Nat.le_trans (Nat.le_add_right _ _) hrm.2⟩
  refine lv_aload_n hx hb dL_law_254 rfl (lv_at hl 3 rfl) ?_
  have hIp1 := h.2.1
  obtain ⟨pn, sn, tc, tp, fa, fb, la, lb, Ln9, Ls9, j2, j3, hF2, ⟨hPa, hPb⟩, ⟨hLa, hLb⟩, ⟨k0, htc⟩, ⟨k10, htp⟩, heq⟩ := id hJ
  have hpn := hF2.1.2.1
  have hsn := hF2.2.1.2.1
  refine zk_Vi (As := []) (rest := []) (bytes := cX10_fault) (maxL := 1) (ret := (some .int)) Z h (zc_X10_fault l D k Γ L F H.size th hth) (cwV 0 hg zv_RLl_35 rfl rfl rfl (by decide +kernel) ⟨(Nat.le_of_ble_eq_true rfl), (Nat.le_of_ble_eq_true rfl)⟩) hth (by decide) rfl rfl hl.1 rfl (Nat.le_of_ble_eq_true rfl) dL_law_255 hcs (fun r1 F1 H locs w h hf1 => ?_)
  have hw := hw.fr hf1 (by unfold zMok; decide +kernel)
  have hfe := hfe.fr hf1 hth hmo (by decide)
  have hJ := hJ.fr hf1 hth hmo (by unfold zJok zJo4; decide +kernel)
  have hD := hD.fr hf1 hth hmo (by unfold zDok; exact ⟨by decide, by unfold zDo1; decide +kernel, by unfold zDo2; decide +kernel, by unfold zDo0; decide, by unfold zDo3; decide⟩) (by unfold zDck; decide)
  have hK := hK.fr hf1 hth hmo (by decide)
  have hE := hE.fr hf1 hth hmo (by unfold zEok; exact ⟨by unfold zEo1; decide, by unfold zEo2; decide, by unfold zEo3; decide +kernel, by unfold zNpM; decide⟩)
  have wq1 := w.2.1
  have hG := hG.fr hIp1 hf1 hth hmo ⟨⟨by decide, by decide⟩, (by unfold zKoF; decide +kernel), (by unfold zKoV; decide +kernel), (by unfold zKoT; decide +kernel)⟩
  have hR := hR.fr hf1 hth hmo ⟨(by unfold zRom; decide +kernel), (by decide +kernel), ⟨⟨(by unfold zMC; decide +kernel), (by unfold zMK; decide +kernel)⟩, (by decide +kernel)⟩, ⟨(by unfold zXM; decide +kernel), (by decide +kernel)⟩⟩
  refine lv_pop hx hb dL_law_258 rfl ?_
  refine lv_aload_n hx hb dL_law_259 rfl (lv_at hl 2 rfl) ?_
  obtain ⟨-, -, -, pr, pq, sp, Lp, Lq, Ls, k4, k5, k6, hP, hMI⟩ := id hw
  have hIp2 := h.2.1
  refine zk_Vi (As := []) (rest := []) (bytes := cX14_fault) (maxL := 1) (ret := (some .int)) Z h (zc_X14_fault l D k Γ L F1 H.size mo hmo) (cwV 0 hg zv_RLl_39 rfl rfl rfl (by decide +kernel) ⟨(Nat.le_of_ble_eq_true rfl), (Nat.le_of_ble_eq_true rfl)⟩) hmo (by decide) rfl rfl hl.1 rfl (Nat.le_of_ble_eq_true rfl) dL_law_260 hcs (fun r2 F2 H locs w h hf2 => ?_)
  have hw := hw.fr hf2 (by unfold zMok; decide +kernel)
  have hfe := hfe.fr hf2 hth hmo (by decide)
  have hJ := hJ.fr hf2 hth hmo (by unfold zJok zJo4; decide +kernel)
  have hD := hD.fr hf2 hth hmo (by unfold zDok; exact ⟨by decide, by unfold zDo1; decide +kernel, by unfold zDo2; decide +kernel, by unfold zDo0; decide, by unfold zDo3; decide⟩) (by unfold zDck; decide)
  have hK := hK.fr hf2 hth hmo (by decide)
  have hE := hE.fr hf2 hth hmo (by unfold zEok; exact ⟨by unfold zEo1; decide, by unfold zEo2; decide, by unfold zEo3; decide +kernel, by unfold zNpM; decide⟩)
  have wq2 := w.1
  have er : r1 = r2 := by
    obtain ⟨fk, a1, a2⟩ := id hK
    exact (z_vi (hf2.f hth 12 ⟨by decide, by decide⟩ wq1) a1).trans (z_vi a2 wq2)
  have hG := hG.fr hIp2 hf2 hth hmo ⟨⟨by decide, by decide⟩, (by unfold zKoF; decide +kernel), (by unfold zKoV; decide +kernel), (by unfold zKoT; decide +kernel)⟩
  have hR := hR.fr hf2 hth hmo ⟨(by unfold zRom; decide +kernel), (by decide +kernel), ⟨⟨(by unfold zMC; decide +kernel), (by unfold zMK; decide +kernel)⟩, (by decide +kernel)⟩, ⟨(by unfold zXM; decide +kernel), (by decide +kernel)⟩⟩
  refine lv_pop hx hb dL_law_263 rfl ?_
  refine lv_goto (tgt := 970) hx hb dL_law_264 (by decide) ?_
  refine W.widen (k := cells + 1) (n := slots + 6) (Nat.le_add_right _ _) (Nat.le_add_right _ _) ?_
  exact kk F2 H locs ls fe h hw hfe hJ hK hD hE hR hG hl

set_option maxHeartbeats 4000000 in
set_option maxRecDepth 100000 in
theorem law_case_3 (hst : l.stackTraces = false) (Z : zC p m c cL_law 7 s #[Value.ref b] zGL RL D k L) (hX : va_X b Ln xs s s.heap) (hbl : b < s.heap.size) (hbA : ¬ zA L s.heap.size b) (h : zH D k Γ L s F H locs) (hw : zIw Γ F th mo o) (hfe : zFe F th mo fe) (hJ : zJw Γ F th mo fe) (hK : zKw F th mo) (hD : zDw Γ F th mo) (hE : zEw Γ F th mo) (hR : zRw Γ F th mo) (hG : zKl Γ F th mo) (hl : lv_has ls 7 [(4, .int y), (3, .ref o), (2, .ref mo), (1, .ref th), (0, .ref b)]) (h1 : vp_in (y + 1) Ln) (h2 : vp_in (y + 2) Ln) (h3 : vp_in (y + 3) Ln) (h4 : vp_in (y + 4) Ln) (h5 : vp_in (y + 5) Ln) (hrm : cells + 1 ≤ room_1.cells ∧ slots + 6 ≤ room_1.slots) (kk : ∀ (F : Nat → va_E) (H : Heap) (locs : List Loc) (ls : Array Slot) (fe : Int32), zH D k Γ L s F H locs → zIw Γ F th mo o → zFe F th mo fe → zJw Γ F th mo fe → zKw F th mo → zDw Γ F th mo → zEw Γ F th mo → zRw Γ F th mo → zKl Γ F th mo → lv_has ls 7 [(4, .int y), (3, .ref o), (2, .ref mo), (1, .ref th), (0, .ref b)] → W p l e room_1 s m #[Value.ref b] below meth c H locs (cells + 1) (slots + 6) Q (F0 m 970 ls [])) : W p l e room_1 s m #[Value.ref b] below meth c H locs cells slots Q (F0 m 267 ls []) := by
  obtain ⟨hth, hmo, ho, -⟩ := id hw
  have hx := Z.1.1
  have hb := Z.1.2.1
  have hg := Z.1.2.2.2.2
  have hcs : cells ≤ room_1.cells ∧ slots ≤ room_1.slots := ⟨Nat.le_trans (Nat.le_add_right _ _) hrm.1, Nat.le_trans (Nat.le_add_right _ _) hrm.2⟩
  refine lv_aload_n hx hb dL_law_267 rfl (lv_at hl 3 rfl) ?_
  have hIp1 := h.2.1
  obtain ⟨pn, sn, tc, tp, fa, fb, la, lb, Ln9, Ls9, j2, j3, hF2, ⟨hPa, hPb⟩, ⟨hLa, hLb⟩, ⟨k0, htc⟩, ⟨k10, htp⟩, heq⟩ := id hJ
  have hpn := hF2.1.2.1
  have hsn := hF2.2.1.2.1
  refine zk_Vi (As := []) (rest := []) (bytes := cX10_where) (maxL := 1) (ret := (some .int)) Z h (zc_X10_where l D k Γ L F H.size th hth) (cwV 0 hg zv_RLl_40 rfl rfl rfl (by decide +kernel) ⟨(Nat.le_of_ble_eq_true rfl), (Nat.le_of_ble_eq_true rfl)⟩) hth (by decide) rfl rfl hl.1 rfl (Nat.le_of_ble_eq_true rfl) dL_law_268 hcs (fun r1 F1 H locs w h hf1 => ?_)
  have hw := hw.fr hf1 (by unfold zMok; decide +kernel)
  have hfe := hfe.fr hf1 hth hmo (by decide)
  have hJ := hJ.fr hf1 hth hmo (by unfold zJok zJo4; decide +kernel)
  have hD := hD.fr hf1 hth hmo (by unfold zDok; exact ⟨by decide, by unfold zDo1; decide +kernel, by unfold zDo2; decide +kernel, by unfold zDo0; decide, by unfold zDo3; decide⟩) (by unfold zDck; decide)
  have hK := hK.fr hf1 hth hmo (by decide)
  have hE := hE.fr hf1 hth hmo (by unfold zEok; exact ⟨by unfold zEo1; decide, by unfold zEo2; decide, by unfold zEo3; decide +kernel, by unfold zNpM; decide⟩)
  have hG := hG.fr hIp1 hf1 hth hmo ⟨⟨by decide, by decide⟩, (by unfold zKoF; decide +kernel), (by unfold zKoV; decide +kernel), (by unfold zKoT; decide +kernel)⟩
  have hR := hR.fr hf1 hth hmo ⟨(by unfold zRom; decide +kernel), (by decide +kernel), ⟨⟨(by unfold zMC; decide +kernel), (by unfold zMK; decide +kernel)⟩, (by decide +kernel)⟩, ⟨(by unfold zXM; decide +kernel), (by decide +kernel)⟩⟩
  refine lv_pop hx hb dL_law_271 rfl ?_
  refine lv_aload_n hx hb dL_law_272 rfl (lv_at hl 2 rfl) ?_
  obtain ⟨-, -, -, pr, pq, sp, Lp, Lq, Ls, k4, k5, k6, hP, hMI⟩ := id hw
  have hIp2 := h.2.1
  refine zk_Vi (As := []) (rest := []) (bytes := cX14_where) (maxL := 1) (ret := (some .int)) Z h (zc_X14_where l D k Γ L F1 H.size mo hmo) (cwV 0 hg zv_RLl_43 rfl rfl rfl (by decide +kernel) ⟨(Nat.le_of_ble_eq_true rfl), (Nat.le_of_ble_eq_true rfl)⟩) hmo (by decide) rfl rfl hl.1 rfl (Nat.le_of_ble_eq_true rfl) dL_law_273 hcs (fun r2 F2 H locs w h hf2 => ?_)
  have hw := hw.fr hf2 (by unfold zMok; decide +kernel)
  have hfe := hfe.fr hf2 hth hmo (by decide)
  have hJ := hJ.fr hf2 hth hmo (by unfold zJok zJo4; decide +kernel)
  have hD := hD.fr hf2 hth hmo (by unfold zDok; exact ⟨by decide, by unfold zDo1; decide +kernel, by unfold zDo2; decide +kernel, by unfold zDo0; decide, by unfold zDo3; decide⟩) (by unfold zDck; decide)
  have hK := hK.fr hf2 hth hmo (by decide)
  have hE := hE.fr hf2 hth hmo (by unfold zEok; exact ⟨by unfold zEo1; decide, by unfold zEo2; decide, by unfold zEo3; decide +kernel, by unfold zNpM; decide⟩)
  have hG := hG.fr hIp2 hf2 hth hmo ⟨⟨by decide, by decide⟩, (by unfold zKoF; decide +kernel), (by unfold zKoV; decide +kernel), (by unfold zKoT; decide +kernel)⟩
  have hR := hR.fr hf2 hth hmo ⟨(by unfold zRom; decide +kernel), (by decide +kernel), ⟨⟨(by unfold zMC; decide +kernel), (by unfold zMK; decide +kernel)⟩, (by decide +kernel)⟩, ⟨(by unfold zXM; decide +kernel), (by decide +kernel)⟩⟩
  refine lv_pop hx hb dL_law_276 rfl ?_
  refine lv_goto (tgt := 970) hx hb dL_law_277 (by decide) ?_
  refine W.widen (k := cells + 1) (n := slots + 6) (Nat.le_add_right _ _) (Nat.le_add_right _ _) ?_
  exact kk F2 H locs ls fe h hw hfe hJ hK hD hE hR hG hl

set_option maxHeartbeats 4000000 in
set_option maxRecDepth 100000 in
theorem law_case_4 (hst : l.stackTraces = false) (Z : zC p m c cL_law 7 s #[Value.ref b] zGL RL D k L) (hX : va_X b Ln xs s s.heap) (hbl : b < s.heap.size) (hbA : ¬ zA L s.heap.size b) (h : zH D k Γ L s F H locs) (hw : zIw Γ F th mo o) (hfe : zFe F th mo fe) (hJ : zJw Γ F th mo fe) (hK : zKw F th mo) (hD : zDw Γ F th mo) (hE : zEw Γ F th mo) (hR : zRw Γ F th mo) (hG : zKl Γ F th mo) (hl : lv_has ls 7 [(4, .int y), (3, .ref o), (2, .ref mo), (1, .ref th), (0, .ref b)]) (h1 : vp_in (y + 1) Ln) (h2 : vp_in (y + 2) Ln) (h3 : vp_in (y + 3) Ln) (h4 : vp_in (y + 4) Ln) (h5 : vp_in (y + 5) Ln) (hrm : cells + 1 ≤ room_1.cells ∧ slots + 6 ≤ room_1.slots) (kk : ∀ (F : Nat → va_E) (H : Heap) (locs : List Loc) (ls : Array Slot) (fe : Int32), zH D k Γ L s F H locs → zIw Γ F th mo o → zFe F th mo fe → zJw Γ F th mo fe → zKw F th mo → zDw Γ F th mo → zEw Γ F th mo → zRw Γ F th mo → zKl Γ F th mo → lv_has ls 7 [(4, .int y), (3, .ref o), (2, .ref mo), (1, .ref th), (0, .ref b)] → W p l e room_1 s m #[Value.ref b] below meth c H locs (cells + 1) (slots + 6) Q (F0 m 970 ls [])) : W p l e room_1 s m #[Value.ref b] below meth c H locs cells slots Q (F0 m 280 ls []) := by
  obtain ⟨hth, hmo, ho, -⟩ := id hw
  have hx := Z.1.1
  have hb := Z.1.2.1
  have hg := Z.1.2.2.2.2
  have hcs : cells ≤ room_1.cells ∧ slots ≤ room_1.slots := ⟨Nat.le_trans (Nat.le_add_right _ _) hrm.1, Nat.le_trans (Nat.le_add_right _ _) hrm.2⟩
  refine lv_aload_n hx hb dL_law_280 rfl (lv_at hl 3 rfl) ?_
  refine lv_aload_n hx hb dL_law_281 rfl (lv_at hl 4 rfl) ?_
  refine lv_iload hx hb dL_law_282 (lv_at hl 0 rfl) ?_
  refine lv_iconst (v := 1) hx hb dL_law_284 (by decide) ?_
  refine lv_iadd hx hb dL_law_285 ?_
  refine va_sld hx hb hX hbl hbA h.2.2 (i := y + 1) h1 dL_law_286 ?_
  refine lv_topi (fun x1 ex1 => ?_)
  refine lv_aload_n hx hb dL_law_287 rfl (lv_at hl 4 rfl) ?_
  refine lv_iload hx hb dL_law_288 (lv_at hl 0 rfl) ?_
  refine lv_iconst (v := 2) hx hb dL_law_290 (by decide) ?_
  refine lv_iadd hx hb dL_law_291 ?_
  refine va_sld hx hb hX hbl hbA h.2.2 (i := y + 2) h2 dL_law_292 ?_
  refine lv_topi (fun x2 ex2 => ?_)
  have hIp1 := h.2.1
  obtain ⟨pn, sn, tc, tp, fa, fb, la, lb, Ln9, Ls9, j2, j3, hF2, ⟨hPa, hPb⟩, ⟨hLa, hLb⟩, ⟨k0, htc⟩, ⟨k10, htp⟩, heq⟩ := id hJ
  have hpn := hF2.1.2.1
  have hsn := hF2.2.1.2.1
  obtain ⟨pn9, to, pr9, fa9, la9, fc, lc, sz_, is_, hDx, hDc⟩ := id hD
  obtain ⟨cv, ch, kn, q1, q2, q3, q4, q5, q6, q7, q8⟩ := id hDc
  have bkn : zB 0 1 kn := z_bd h q4 (by decide) rfl q5
  have en9 : pn9 = pn := Value.ref.inj (hDx.1.1.symm.trans j2)
  subst pn9
  have hto := hDx.2.1.2.1
  have kto := hDx.1.2.1
  have bfc : zB 0 10 fc := z_bd h hpn (by decide) rfl hDx.2.2.1.1
  have blc : zB 0 60 lc := z_bd h hpn (by decide) rfl hDx.2.2.1.2.1
  have bsz : zB 0 12 sz_ := z_bd h hto (by decide) rfl hDx.2.2.2.1
  refine zk_Vi (As := [.int x1, .int x2]) (rest := []) (bytes := cX10_function) (maxL := 3) (ret := (some .int)) Z h (zc_X10_function l D k Γ L F H.size th x1 x2 pn fc fa9 hth j2 hpn hDx.2.2.1.1 bfc hDx.2.1.2.2.2.1) (cwV 2 hg zv_RLl_44 rfl rfl rfl (by decide +kernel) ⟨(Nat.le_of_ble_eq_true rfl), (Nat.le_of_ble_eq_true rfl)⟩) hth (by decide) rfl rfl hl.1 rfl (Nat.le_of_ble_eq_true rfl) dL_law_293 hcs (fun r1 F1 H locs w h hf1 => ?_)
  have hw := hw.fr hf1 (by unfold zMok; decide +kernel)
  have hfe := hfe.fr hf1 hth hmo (by decide)
  have hJ := hJ.fr hf1 hth hmo (by unfold zJok zJo4; decide +kernel)
  have hD := hD.fr hf1 hth hmo (by unfold zDok; exact ⟨by decide, by unfold zDo1; decide +kernel, by unfold zDo2; decide +kernel, by unfold zDo0; decide, by unfold zDo3; decide⟩) (by unfold zDck; decide)
  have hK := hK.fr hf1 hth hmo (by decide)
  have hE := hE.fr hf1 hth hmo (by unfold zEok; exact ⟨by unfold zEo1; decide, by unfold zEo2; decide, by unfold zEo3; decide +kernel, by unfold zNpM; decide⟩)
  have wf1 := w.2.1
  have hDx1 := hDx.fr hf1 hth hmo (by unfold zDok; exact ⟨by decide, by unfold zDo1; decide +kernel, by unfold zDo2; decide +kernel, by unfold zDo0; decide, by unfold zDo3; decide⟩) (by decide)
  have hG := hG.fr hIp1 hf1 hth hmo ⟨⟨by decide, by decide⟩, (by unfold zKoF; decide +kernel), (by unfold zKoV; decide +kernel), (by unfold zKoT; decide +kernel)⟩
  have hR := hR.fr hf1 hth hmo ⟨(by unfold zRom; decide +kernel), (by decide +kernel), ⟨⟨(by unfold zMC; decide +kernel), (by unfold zMK; decide +kernel)⟩, (by decide +kernel)⟩, ⟨(by unfold zXM; decide +kernel), (by decide +kernel)⟩⟩
  refine lv_pop hx hb dL_law_296 rfl ?_
  refine lv_aload_n hx hb dL_law_297 rfl (lv_at hl 2 rfl) ?_
  refine lv_aload_n hx hb dL_law_298 rfl (lv_at hl 4 rfl) ?_
  refine lv_iload hx hb dL_law_299 (lv_at hl 0 rfl) ?_
  refine lv_iconst (v := 1) hx hb dL_law_301 (by decide) ?_
  refine lv_iadd hx hb dL_law_302 ?_
  refine va_sld hx hb hX hbl hbA h.2.2 (i := y + 1) h1 dL_law_303 ?_
  refine lv_topi (fun x3 ex3 => ?_)
  refine lv_aload_n hx hb dL_law_304 rfl (lv_at hl 4 rfl) ?_
  refine lv_iload hx hb dL_law_305 (lv_at hl 0 rfl) ?_
  refine lv_iconst (v := 2) hx hb dL_law_307 (by decide) ?_
  refine lv_iadd hx hb dL_law_308 ?_
  refine va_sld hx hb hX hbl hbA h.2.2 (i := y + 2) h2 dL_law_309 ?_
  refine lv_topi (fun x4 ex4 => ?_)
  obtain ⟨-, -, -, pr, pq, sp, Lp, Lq, Ls, k4, k5, k6, hP, hMI⟩ := id hw
  have hIp2 := h.2.1
  have er9 : pr9 = pr := Value.ref.inj ((hf1.f hmo 4 ⟨by decide, by decide⟩ hDx.1.2.2).symm.trans k4)
  subst pr9
  have hpr9 := hDx.2.1.2.2.1
  have k7 := hf1.f hmo 7 ⟨by decide, by decide⟩ hDx.2.2.2.2.2.1
  have k32 := hf1.f hmo 32 ⟨by decide, by decide⟩ hDx.2.2.2.2.1
  have bis : zB 0 1 is_ := z_bd h hmo (by decide) rfl k7
  obtain ⟨nf, knf, bnf⟩ := z_learn (j := 0) (lo := 0) (hi := 10) h hpr9 (by decide) rfl
  obtain ⟨nl, knl, bnl⟩ := z_learn (j := 1) (lo := 0) (hi := 60) h hpr9 (by decide) rfl
  have d7 : (is_.toInt = 0 ∧ fc.toInt = 0 ∧ lc.toInt = 0) ∨ (is_.toInt ≠ 0 ∧ nf = fc ∧ nl = lc) := hDx.2.2.2.2.2.2.imp id (fun h9 => ⟨h9.1, z_vi knf (hf1.f hpr9 0 ⟨by decide, by decide⟩ h9.2.1), z_vi knl (hf1.f hpr9 1 ⟨by decide, by decide⟩ h9.2.2.1)⟩)
  refine zk_Vi (As := [.int x3, .int x4]) (rest := []) (bytes := cX14_function) (maxL := 3) (ret := (some .int)) Z h (zc_X14_function l D k Γ L F1 H.size mo x3 x4 pr is_ nf hmo k4 hP.1.2.1 k7 bis knf bnf) (cwV 2 hg zv_RLl_47 rfl rfl rfl (by decide +kernel) ⟨(Nat.le_of_ble_eq_true rfl), (Nat.le_of_ble_eq_true rfl)⟩) hmo (by decide) rfl rfl hl.1 rfl (Nat.le_of_ble_eq_true rfl) dL_law_310 hcs (fun r2 F2 H locs w h hf2 => ?_)
  have hw := hw.fr hf2 (by unfold zMok; decide +kernel)
  have hfe := hfe.fr hf2 hth hmo (by decide)
  have hJ := hJ.fr hf2 hth hmo (by unfold zJok zJo4; decide +kernel)
  have hD := hD.fr hf2 hth hmo (by unfold zDok; exact ⟨by decide, by unfold zDo1; decide +kernel, by unfold zDo2; decide +kernel, by unfold zDo0; decide, by unfold zDo3; decide⟩) (by unfold zDck; decide)
  have hK := hK.fr hf2 hth hmo (by decide)
  have hE := hE.fr hf2 hth hmo (by unfold zEok; exact ⟨by unfold zEo1; decide, by unfold zEo2; decide, by unfold zEo3; decide +kernel, by unfold zNpM; decide⟩)
  have e12 : x3 = x1 := ex3.trans ex1.symm
  have e13 : x4 = x2 := ex4.trans ex2.symm
  have wf2 := w.1
  rw [e12, e13] at wf2
  have er := z_fun wf1 wf2 (hDx1.2.2.2.2.2.2.imp id (fun h9 => ⟨h9.1, z_vi knf h9.2.1, h9.2.2.2.2.1⟩)) (fun j g1 g2 => hDx1.2.1.2.2.2.2.2.ar hf2 j ⟨by omega, by omega, by simp only [List.mem_singleton]; omega, by simp only [List.mem_singleton]; omega⟩)
  have hG := hG.fr hIp2 hf2 hth hmo ⟨⟨by decide, by decide⟩, (by unfold zKoF; decide +kernel), (by unfold zKoV; decide +kernel), (by unfold zKoT; decide +kernel)⟩
  have hR := hR.fr hf2 hth hmo ⟨(by unfold zRom; decide +kernel), (by decide +kernel), ⟨⟨(by unfold zMC; decide +kernel), (by unfold zMK; decide +kernel)⟩, (by decide +kernel)⟩, ⟨(by unfold zXM; decide +kernel), (by decide +kernel)⟩⟩
  refine lv_pop hx hb dL_law_313 rfl ?_
  refine lv_goto (tgt := 970) hx hb dL_law_314 (by decide) ?_
  refine W.widen (k := cells + 1) (n := slots + 6) (Nat.le_add_right _ _) (Nat.le_add_right _ _) ?_
  exact kk F2 H locs ls fe h hw hfe hJ hK hD hE hR hG hl

set_option maxHeartbeats 4000000 in
set_option maxRecDepth 100000 in
theorem law_case_5 (hst : l.stackTraces = false) (Z : zC p m c cL_law 7 s #[Value.ref b] zGL RL D k L) (hX : va_X b Ln xs s s.heap) (hbl : b < s.heap.size) (hbA : ¬ zA L s.heap.size b) (h : zH D k Γ L s F H locs) (hw : zIw Γ F th mo o) (hfe : zFe F th mo fe) (hJ : zJw Γ F th mo fe) (hK : zKw F th mo) (hD : zDw Γ F th mo) (hE : zEw Γ F th mo) (hR : zRw Γ F th mo) (hG : zKl Γ F th mo) (hl : lv_has ls 7 [(4, .int y), (3, .ref o), (2, .ref mo), (1, .ref th), (0, .ref b)]) (h1 : vp_in (y + 1) Ln) (h2 : vp_in (y + 2) Ln) (h3 : vp_in (y + 3) Ln) (h4 : vp_in (y + 4) Ln) (h5 : vp_in (y + 5) Ln) (hrm : cells + 1 ≤ room_1.cells ∧ slots + 6 ≤ room_1.slots) (kk : ∀ (F : Nat → va_E) (H : Heap) (locs : List Loc) (ls : Array Slot) (fe : Int32), zH D k Γ L s F H locs → zIw Γ F th mo o → zFe F th mo fe → zJw Γ F th mo fe → zKw F th mo → zDw Γ F th mo → zEw Γ F th mo → zRw Γ F th mo → zKl Γ F th mo → lv_has ls 7 [(4, .int y), (3, .ref o), (2, .ref mo), (1, .ref th), (0, .ref b)] → W p l e room_1 s m #[Value.ref b] below meth c H locs (cells + 1) (slots + 6) Q (F0 m 970 ls [])) : W p l e room_1 s m #[Value.ref b] below meth c H locs cells slots Q (F0 m 317 ls []) := by
  obtain ⟨hth, hmo, ho, -⟩ := id hw
  have hx := Z.1.1
  have hb := Z.1.2.1
  have hg := Z.1.2.2.2.2
  have hcs : cells ≤ room_1.cells ∧ slots ≤ room_1.slots := ⟨Nat.le_trans (Nat.le_add_right _ _) hrm.1, Nat.le_trans (Nat.le_add_right _ _) hrm.2⟩
  refine lv_aload_n hx hb dL_law_317 rfl (lv_at hl 3 rfl) ?_
  refine lv_aload_n hx hb dL_law_318 rfl (lv_at hl 4 rfl) ?_
  refine lv_iload hx hb dL_law_319 (lv_at hl 0 rfl) ?_
  refine lv_iconst (v := 1) hx hb dL_law_321 (by decide) ?_
  refine lv_iadd hx hb dL_law_322 ?_
  refine va_sld hx hb hX hbl hbA h.2.2 (i := y + 1) h1 dL_law_323 ?_
  refine lv_topi (fun x1 ex1 => ?_)
  refine lv_aload_n hx hb dL_law_324 rfl (lv_at hl 4 rfl) ?_
  refine lv_iload hx hb dL_law_325 (lv_at hl 0 rfl) ?_
  refine lv_iconst (v := 2) hx hb dL_law_327 (by decide) ?_
  refine lv_iadd hx hb dL_law_328 ?_
  refine va_sld hx hb hX hbl hbA h.2.2 (i := y + 2) h2 dL_law_329 ?_
  refine lv_topi (fun x2 ex2 => ?_)
  refine lv_aload_n hx hb dL_law_330 rfl (lv_at hl 1 rfl) ?_
  have hIp1 := h.2.1
  obtain ⟨pn, sn, tc, tp, fa, fb, la, lb, Ln9, Ls9, j2, j3, hF2, ⟨hPa, hPb⟩, ⟨hLa, hLb⟩, ⟨k0, htc⟩, ⟨k10, htp⟩, heq⟩ := id hJ
  have hpn := hF2.1.2.1
  have hsn := hF2.2.1.2.1
  obtain ⟨pnE, gr, prE, paE, tkE, nE, NE, BE, faE, fcE, izE, ipE, xE, hEx⟩ := id hE
  have enE : pnE = pn := Value.ref.inj (hEx.1.1.symm.trans j2)
  subst pnE
  have bfE : zB 0 10 fcE := z_bd h hpn (by decide) rfl hEx.2.2.1.1
  refine va_calli (vx_runSW (As := [.ref th, .int x1, .int x2, .ref o]) (rest := []) Z.1 (zc_L_name l hst D k Γ L F H.size th x1 x2 o pn fcE tkE BE nE NE faE (fun g => (zal F prE 4 g).toInt) hth ho j2 hpn hEx.2.2.1.1 bfE ⟨hEx.2.1.2.2.2.2.2.2, hEx.2.2.2.1⟩) (vx_cwSW 4 hg zv_RLs_48 rfl rfl rfl (by decide +kernel) ⟨(Nat.le_of_ble_eq_true rfl), (Nat.le_of_ble_eq_true rfl)⟩) ⟨zP_blind, zP_pre Z h⟩ rfl rfl hl.1 rfl (lv_room (Nat.le_of_ble_eq_true rfl)) dL_law_331 hrm) h.2.2 (fun q _ g => zA_in h.2.2 q g) (zA_in h.2.2) (fun r1 F1 t H1 locs1 ht _ w hB _ _ hS => ?_)
  have h : zH D k Γ L s F1 H1 locs1 := ⟨by rw [← ht]; exact hB.1, hB.2.1, hS⟩
  have hf1 : zFr Γ [15400] F F1 := hB.2.2
  generalize H1 = H at h ⊢
  generalize locs1 = locs at h ⊢
  have hw := hw.fr hf1 (by unfold zMok; decide +kernel)
  have hfe := hfe.fr hf1 hth hmo (by decide)
  have hJ := hJ.fr hf1 hth hmo (by unfold zJok zJo4; decide +kernel)
  have hD := hD.fr hf1 hth hmo (by unfold zDok; exact ⟨by decide, by unfold zDo1; decide +kernel, by unfold zDo2; decide +kernel, by unfold zDo0; decide, by unfold zDo3; decide⟩) (by unfold zDck; decide)
  have hK := hK.fr hf1 hth hmo (by decide)
  have hE := hE.fr hf1 hth hmo (by unfold zEok; exact ⟨by unfold zEo1; decide, by unfold zEo2; decide, by unfold zEo3; decide +kernel, by unfold zNpM; decide⟩)
  have wn1 := w
  have hEx1 := hEx.fr hf1 hth hmo (by unfold zEok; exact ⟨by unfold zEo1; decide, by unfold zEo2; decide, by unfold zEo3; decide +kernel, by unfold zNpM; decide⟩)
  have hG := hG.fr hIp1 hf1 hth hmo ⟨⟨by decide, by decide⟩, (by unfold zKoF; decide +kernel), (by unfold zKoV; decide +kernel), (by unfold zKoT; decide +kernel)⟩
  have hR := hR.fr hf1 hth hmo ⟨(by unfold zRom; decide +kernel), (by decide +kernel), ⟨⟨(by unfold zMC; decide +kernel), (by unfold zMK; decide +kernel)⟩, (by decide +kernel)⟩, ⟨(by unfold zXM; decide +kernel), (by decide +kernel)⟩⟩
  refine lv_istore (lv' := [(5, .int r1), (4, .int y), (3, .ref o), (2, .ref mo), (1, .ref th), (0, .ref b)]) hx hb dL_law_334 hl (by decide) rfl (fun ls hl => ?_)
  have hl := lv_sub (l' := [(4, .int y), (3, .ref o), (2, .ref mo), (1, .ref th), (0, .ref b)]) hl [1, 2, 3, 4, 5] rfl
  refine lv_aload_n hx hb dL_law_336 rfl (lv_at hl 2 rfl) ?_
  refine lv_aload_n hx hb dL_law_337 rfl (lv_at hl 4 rfl) ?_
  refine lv_iload hx hb dL_law_338 (lv_at hl 0 rfl) ?_
  refine lv_iconst (v := 1) hx hb dL_law_340 (by decide) ?_
  refine lv_iadd hx hb dL_law_341 ?_
  refine va_sld hx hb hX hbl hbA h.2.2 (i := y + 1) h1 dL_law_342 ?_
  refine lv_topi (fun x3 ex3 => ?_)
  refine lv_aload_n hx hb dL_law_343 rfl (lv_at hl 4 rfl) ?_
  refine lv_iload hx hb dL_law_344 (lv_at hl 0 rfl) ?_
  refine lv_iconst (v := 2) hx hb dL_law_346 (by decide) ?_
  refine lv_iadd hx hb dL_law_347 ?_
  refine va_sld hx hb hX hbl hbA h.2.2 (i := y + 2) h2 dL_law_348 ?_
  refine lv_topi (fun x4 ex4 => ?_)
  obtain ⟨-, -, -, pr, pq, sp, Lp, Lq, Ls, k4, k5, k6, hP, hMI⟩ := id hw
  have hIp2 := h.2.1
  have erE : prE = pr := Value.ref.inj ((hf1.f hmo 4 ⟨by decide, by decide⟩ hEx.1.2.2.1).symm.trans k4)
  subst prE
  have eqE : paE = pq := Value.ref.inj ((hf1.f hmo 5 ⟨by decide, by decide⟩ hEx.1.2.2.2).symm.trans k5)
  subst paE
  have kisE := hf1.f hmo 7 ⟨by decide, by decide⟩ hEx.2.2.1.2.2.1
  have bisE : zB 0 1 izE := z_bd h hmo (by decide) rfl kisE
  obtain ⟨nf, knf, bnf⟩ := z_learn (j := 0) (lo := 0) (hi := 10) h hP.1.2.1 (by decide) rfl
  refine zk_Vi (As := [.int x3, .int x4]) (rest := []) (bytes := cX14_name) (maxL := 3) (ret := (some .int)) Z h (zc_X14_name l D k Γ L F1 H.size mo x3 x4 pr izE nf hmo k4 hP.1.2.1 kisE bisE knf bnf (fun f9 g1 g2 => (hEx1.2.2.2.2.1.elim (fun h8 => absurd h8.1 g2) (fun h8 => (z_vi knf h8.2 ▸ (fun g3 => ⟨hEx1.2.2.2.2.2.2 f9 g3, (hEx1.2.2.2.1 (by omega)).nn f9 g3⟩) : (f9 : Int) < nf.toInt → _) g1)))) (cwV 2 hg zv_RLl_53 rfl rfl rfl (by decide +kernel) ⟨(Nat.le_of_ble_eq_true rfl), (Nat.le_of_ble_eq_true rfl)⟩) hmo (by decide) rfl rfl hl.1 rfl (Nat.le_of_ble_eq_true rfl) dL_law_349 hrm (fun r2 F2 H locs w h hf2 => ?_)
  have hw := hw.fr hf2 (by unfold zMok; decide +kernel)
  have hfe := hfe.fr hf2 hth hmo (by decide)
  have hJ := hJ.fr hf2 hth hmo (by unfold zJok zJo4; decide +kernel)
  have hD := hD.fr hf2 hth hmo (by unfold zDok; exact ⟨by decide, by unfold zDo1; decide +kernel, by unfold zDo2; decide +kernel, by unfold zDo0; decide, by unfold zDo3; decide⟩) (by unfold zDck; decide)
  have hK := hK.fr hf2 hth hmo (by decide)
  have hE := hE.fr hf2 hth hmo (by unfold zEok; exact ⟨by unfold zEo1; decide, by unfold zEo2; decide, by unfold zEo3; decide +kernel, by unfold zNpM; decide⟩)
  have hG := hG.fr hIp2 hf2 hth hmo ⟨⟨by decide, by decide⟩, (by unfold zKoF; decide +kernel), (by unfold zKoV; decide +kernel), (by unfold zKoT; decide +kernel)⟩
  have hR := hR.fr hf2 hth hmo ⟨(by unfold zRom; decide +kernel), (by decide +kernel), ⟨⟨(by unfold zMC; decide +kernel), (by unfold zMK; decide +kernel)⟩, (by decide +kernel)⟩, ⟨(by unfold zXM; decide +kernel), (by decide +kernel)⟩⟩
  refine lv_istore (lv' := [(6, .int r2), (4, .int y), (3, .ref o), (2, .ref mo), (1, .ref th), (0, .ref b)]) hx hb dL_law_352 hl (by decide) rfl (fun ls hl => ?_)
  have hl := lv_sub (l' := [(4, .int y), (3, .ref o), (2, .ref mo), (1, .ref th), (0, .ref b)]) hl [1, 2, 3, 4, 5] rfl
  refine lv_goto (tgt := 970) hx hb dL_law_354 (by decide) ?_
  exact kk F2 H locs ls fe h hw hfe hJ hK hD hE hR hG hl

set_option maxHeartbeats 4000000 in
set_option maxRecDepth 100000 in
theorem law_case_6 (hst : l.stackTraces = false) (Z : zC p m c cL_law 7 s #[Value.ref b] zGL RL D k L) (hX : va_X b Ln xs s s.heap) (hbl : b < s.heap.size) (hbA : ¬ zA L s.heap.size b) (h : zH D k Γ L s F H locs) (hw : zIw Γ F th mo o) (hfe : zFe F th mo fe) (hJ : zJw Γ F th mo fe) (hK : zKw F th mo) (hD : zDw Γ F th mo) (hE : zEw Γ F th mo) (hR : zRw Γ F th mo) (hG : zKl Γ F th mo) (hl : lv_has ls 7 [(4, .int y), (3, .ref o), (2, .ref mo), (1, .ref th), (0, .ref b)]) (h1 : vp_in (y + 1) Ln) (h2 : vp_in (y + 2) Ln) (h3 : vp_in (y + 3) Ln) (h4 : vp_in (y + 4) Ln) (h5 : vp_in (y + 5) Ln) (hrm : cells + 1 ≤ room_1.cells ∧ slots + 6 ≤ room_1.slots) (kk : ∀ (F : Nat → va_E) (H : Heap) (locs : List Loc) (ls : Array Slot) (fe : Int32), zH D k Γ L s F H locs → zIw Γ F th mo o → zFe F th mo fe → zJw Γ F th mo fe → zKw F th mo → zDw Γ F th mo → zEw Γ F th mo → zRw Γ F th mo → zKl Γ F th mo → lv_has ls 7 [(4, .int y), (3, .ref o), (2, .ref mo), (1, .ref th), (0, .ref b)] → W p l e room_1 s m #[Value.ref b] below meth c H locs (cells + 1) (slots + 6) Q (F0 m 970 ls [])) : W p l e room_1 s m #[Value.ref b] below meth c H locs cells slots Q (F0 m 357 ls []) := by
  obtain ⟨hth, hmo, ho, -⟩ := id hw
  have hx := Z.1.1
  have hb := Z.1.2.1
  have hg := Z.1.2.2.2.2
  have hcs : cells ≤ room_1.cells ∧ slots ≤ room_1.slots := ⟨Nat.le_trans (Nat.le_add_right _ _) hrm.1, Nat.le_trans (Nat.le_add_right _ _) hrm.2⟩
  refine lv_aload_n hx hb dL_law_357 rfl (lv_at hl 3 rfl) ?_
  refine lv_aload_n hx hb dL_law_358 rfl (lv_at hl 4 rfl) ?_
  refine lv_iload hx hb dL_law_359 (lv_at hl 0 rfl) ?_
  refine lv_iconst (v := 1) hx hb dL_law_361 (by decide) ?_
  refine lv_iadd hx hb dL_law_362 ?_
  refine va_sld hx hb hX hbl hbA h.2.2 (i := y + 1) h1 dL_law_363 ?_
  refine lv_topi (fun x1 ex1 => ?_)
  refine lv_aload_n hx hb dL_law_364 rfl (lv_at hl 4 rfl) ?_
  refine lv_iload hx hb dL_law_365 (lv_at hl 0 rfl) ?_
  refine lv_iconst (v := 2) hx hb dL_law_367 (by decide) ?_
  refine lv_iadd hx hb dL_law_368 ?_
  refine va_sld hx hb hX hbl hbA h.2.2 (i := y + 2) h2 dL_law_369 ?_
  refine lv_topi (fun x2 ex2 => ?_)
  have hIp1 := h.2.1
  obtain ⟨pn, sn, tc, tp, fa, fb, la, lb, Ln9, Ls9, j2, j3, hF2, ⟨hPa, hPb⟩, ⟨hLa, hLb⟩, ⟨k0, htc⟩, ⟨k10, htp⟩, heq⟩ := id hJ
  have hpn := hF2.1.2.1
  have hsn := hF2.2.1.2.1
  obtain ⟨pn9, to, pr9, fa9, la9, fc, lc, sz_, is_, hDx, hDc⟩ := id hD
  obtain ⟨cv, ch, kn, q1, q2, q3, q4, q5, q6, q7, q8⟩ := id hDc
  have bkn : zB 0 1 kn := z_bd h q4 (by decide) rfl q5
  have en9 : pn9 = pn := Value.ref.inj (hDx.1.1.symm.trans j2)
  subst pn9
  have hto := hDx.2.1.2.1
  have kto := hDx.1.2.1
  have bfc : zB 0 10 fc := z_bd h hpn (by decide) rfl hDx.2.2.1.1
  have blc : zB 0 60 lc := z_bd h hpn (by decide) rfl hDx.2.2.1.2.1
  have bsz : zB 0 12 sz_ := z_bd h hto (by decide) rfl hDx.2.2.2.1
  refine zk_Vi (As := [.int x1, .int x2]) (rest := []) (bytes := cX10_line) (maxL := 3) (ret := (some .int)) Z h (zc_X10_line l D k Γ L F H.size th x1 x2 pn lc la9 hth j2 hpn hDx.2.2.1.2.1 blc hDx.2.1.2.2.2.2.1) (cwV 2 hg zv_RLl_54 rfl rfl rfl (by decide +kernel) ⟨(Nat.le_of_ble_eq_true rfl), (Nat.le_of_ble_eq_true rfl)⟩) hth (by decide) rfl rfl hl.1 rfl (Nat.le_of_ble_eq_true rfl) dL_law_370 hcs (fun r1 F1 H locs w h hf1 => ?_)
  have hw := hw.fr hf1 (by unfold zMok; decide +kernel)
  have hfe := hfe.fr hf1 hth hmo (by decide)
  have hJ := hJ.fr hf1 hth hmo (by unfold zJok zJo4; decide +kernel)
  have hD := hD.fr hf1 hth hmo (by unfold zDok; exact ⟨by decide, by unfold zDo1; decide +kernel, by unfold zDo2; decide +kernel, by unfold zDo0; decide, by unfold zDo3; decide⟩) (by unfold zDck; decide)
  have hK := hK.fr hf1 hth hmo (by decide)
  have hE := hE.fr hf1 hth hmo (by unfold zEok; exact ⟨by unfold zEo1; decide, by unfold zEo2; decide, by unfold zEo3; decide +kernel, by unfold zNpM; decide⟩)
  have wl1 := w.2.1
  have hDx1 := hDx.fr hf1 hth hmo (by unfold zDok; exact ⟨by decide, by unfold zDo1; decide +kernel, by unfold zDo2; decide +kernel, by unfold zDo0; decide, by unfold zDo3; decide⟩) (by decide)
  have hG := hG.fr hIp1 hf1 hth hmo ⟨⟨by decide, by decide⟩, (by unfold zKoF; decide +kernel), (by unfold zKoV; decide +kernel), (by unfold zKoT; decide +kernel)⟩
  have hR := hR.fr hf1 hth hmo ⟨(by unfold zRom; decide +kernel), (by decide +kernel), ⟨⟨(by unfold zMC; decide +kernel), (by unfold zMK; decide +kernel)⟩, (by decide +kernel)⟩, ⟨(by unfold zXM; decide +kernel), (by decide +kernel)⟩⟩
  refine lv_pop hx hb dL_law_373 rfl ?_
  refine lv_aload_n hx hb dL_law_374 rfl (lv_at hl 2 rfl) ?_
  refine lv_aload_n hx hb dL_law_375 rfl (lv_at hl 4 rfl) ?_
  refine lv_iload hx hb dL_law_376 (lv_at hl 0 rfl) ?_
  refine lv_iconst (v := 1) hx hb dL_law_378 (by decide) ?_
  refine lv_iadd hx hb dL_law_379 ?_
  refine va_sld hx hb hX hbl hbA h.2.2 (i := y + 1) h1 dL_law_380 ?_
  refine lv_topi (fun x3 ex3 => ?_)
  refine lv_aload_n hx hb dL_law_381 rfl (lv_at hl 4 rfl) ?_
  refine lv_iload hx hb dL_law_382 (lv_at hl 0 rfl) ?_
  refine lv_iconst (v := 2) hx hb dL_law_384 (by decide) ?_
  refine lv_iadd hx hb dL_law_385 ?_
  refine va_sld hx hb hX hbl hbA h.2.2 (i := y + 2) h2 dL_law_386 ?_
  refine lv_topi (fun x4 ex4 => ?_)
  obtain ⟨-, -, -, pr, pq, sp, Lp, Lq, Ls, k4, k5, k6, hP, hMI⟩ := id hw
  have hIp2 := h.2.1
  have er9 : pr9 = pr := Value.ref.inj ((hf1.f hmo 4 ⟨by decide, by decide⟩ hDx.1.2.2).symm.trans k4)
  subst pr9
  have hpr9 := hDx.2.1.2.2.1
  have k7 := hf1.f hmo 7 ⟨by decide, by decide⟩ hDx.2.2.2.2.2.1
  have k32 := hf1.f hmo 32 ⟨by decide, by decide⟩ hDx.2.2.2.2.1
  have bis : zB 0 1 is_ := z_bd h hmo (by decide) rfl k7
  obtain ⟨nf, knf, bnf⟩ := z_learn (j := 0) (lo := 0) (hi := 10) h hpr9 (by decide) rfl
  obtain ⟨nl, knl, bnl⟩ := z_learn (j := 1) (lo := 0) (hi := 60) h hpr9 (by decide) rfl
  have d7 : (is_.toInt = 0 ∧ fc.toInt = 0 ∧ lc.toInt = 0) ∨ (is_.toInt ≠ 0 ∧ nf = fc ∧ nl = lc) := hDx.2.2.2.2.2.2.imp id (fun h9 => ⟨h9.1, z_vi knf (hf1.f hpr9 0 ⟨by decide, by decide⟩ h9.2.1), z_vi knl (hf1.f hpr9 1 ⟨by decide, by decide⟩ h9.2.2.1)⟩)
  refine zk_Vi (As := [.int x3, .int x4]) (rest := []) (bytes := cX14_line) (maxL := 3) (ret := (some .int)) Z h (zc_X14_line l D k Γ L F1 H.size mo x3 x4 pr is_ nl hmo k4 hP.1.2.1 k7 bis knl bnl) (cwV 2 hg zv_RLl_57 rfl rfl rfl (by decide +kernel) ⟨(Nat.le_of_ble_eq_true rfl), (Nat.le_of_ble_eq_true rfl)⟩) hmo (by decide) rfl rfl hl.1 rfl (Nat.le_of_ble_eq_true rfl) dL_law_387 hcs (fun r2 F2 H locs w h hf2 => ?_)
  have hw := hw.fr hf2 (by unfold zMok; decide +kernel)
  have hfe := hfe.fr hf2 hth hmo (by decide)
  have hJ := hJ.fr hf2 hth hmo (by unfold zJok zJo4; decide +kernel)
  have hD := hD.fr hf2 hth hmo (by unfold zDok; exact ⟨by decide, by unfold zDo1; decide +kernel, by unfold zDo2; decide +kernel, by unfold zDo0; decide, by unfold zDo3; decide⟩) (by unfold zDck; decide)
  have hK := hK.fr hf2 hth hmo (by decide)
  have hE := hE.fr hf2 hth hmo (by unfold zEok; exact ⟨by unfold zEo1; decide, by unfold zEo2; decide, by unfold zEo3; decide +kernel, by unfold zNpM; decide⟩)
  have e12 : x3 = x1 := ex3.trans ex1.symm
  have e13 : x4 = x2 := ex4.trans ex2.symm
  have wl2 := w.1
  rw [e12, e13] at wl2
  have er := z_lin wl1 wl2 (hDx1.2.2.2.2.2.2.imp id (fun h9 => ⟨h9.1, z_vi knl h9.2.2.1, h9.2.2.2.1⟩)) (fun j g1 g2 => hDx1.2.1.2.2.2.2.2.ar hf2 j ⟨by omega, by omega, by simp only [List.mem_singleton]; omega, by simp only [List.mem_singleton]; omega⟩)
  have hG := hG.fr hIp2 hf2 hth hmo ⟨⟨by decide, by decide⟩, (by unfold zKoF; decide +kernel), (by unfold zKoV; decide +kernel), (by unfold zKoT; decide +kernel)⟩
  have hR := hR.fr hf2 hth hmo ⟨(by unfold zRom; decide +kernel), (by decide +kernel), ⟨⟨(by unfold zMC; decide +kernel), (by unfold zMK; decide +kernel)⟩, (by decide +kernel)⟩, ⟨(by unfold zXM; decide +kernel), (by decide +kernel)⟩⟩
  refine lv_pop hx hb dL_law_390 rfl ?_
  refine lv_goto (tgt := 970) hx hb dL_law_391 (by decide) ?_
  refine W.widen (k := cells + 1) (n := slots + 6) (Nat.le_add_right _ _) (Nat.le_add_right _ _) ?_
  exact kk F2 H locs ls fe h hw hfe hJ hK hD hE hR hG hl

set_option maxHeartbeats 4000000 in
set_option maxRecDepth 100000 in
theorem law_case_7 (hst : l.stackTraces = false) (Z : zC p m c cL_law 7 s #[Value.ref b] zGL RL D k L) (hX : va_X b Ln xs s s.heap) (hbl : b < s.heap.size) (hbA : ¬ zA L s.heap.size b) (h : zH D k Γ L s F H locs) (hw : zIw Γ F th mo o) (hfe : zFe F th mo fe) (hJ : zJw Γ F th mo fe) (hK : zKw F th mo) (hD : zDw Γ F th mo) (hE : zEw Γ F th mo) (hR : zRw Γ F th mo) (hG : zKl Γ F th mo) (hl : lv_has ls 7 [(4, .int y), (3, .ref o), (2, .ref mo), (1, .ref th), (0, .ref b)]) (h1 : vp_in (y + 1) Ln) (h2 : vp_in (y + 2) Ln) (h3 : vp_in (y + 3) Ln) (h4 : vp_in (y + 4) Ln) (h5 : vp_in (y + 5) Ln) (hrm : cells + 1 ≤ room_1.cells ∧ slots + 6 ≤ room_1.slots) (kk : ∀ (F : Nat → va_E) (H : Heap) (locs : List Loc) (ls : Array Slot) (fe : Int32), zH D k Γ L s F H locs → zIw Γ F th mo o → zFe F th mo fe → zJw Γ F th mo fe → zKw F th mo → zDw Γ F th mo → zEw Γ F th mo → zRw Γ F th mo → zKl Γ F th mo → lv_has ls 7 [(4, .int y), (3, .ref o), (2, .ref mo), (1, .ref th), (0, .ref b)] → W p l e room_1 s m #[Value.ref b] below meth c H locs (cells + 1) (slots + 6) Q (F0 m 970 ls [])) : W p l e room_1 s m #[Value.ref b] below meth c H locs cells slots Q (F0 m 394 ls []) := by
  obtain ⟨hth, hmo, ho, -⟩ := id hw
  have hx := Z.1.1
  have hb := Z.1.2.1
  have hg := Z.1.2.2.2.2
  have hcs : cells ≤ room_1.cells ∧ slots ≤ room_1.slots := ⟨Nat.le_trans (Nat.le_add_right _ _) hrm.1, Nat.le_trans (Nat.le_add_right _ _) hrm.2⟩
  refine lv_aload_n hx hb dL_law_394 rfl (lv_at hl 3 rfl) ?_
  refine lv_aload_n hx hb dL_law_395 rfl (lv_at hl 4 rfl) ?_
  refine lv_iload hx hb dL_law_396 (lv_at hl 0 rfl) ?_
  refine lv_iconst (v := 1) hx hb dL_law_398 (by decide) ?_
  refine lv_iadd hx hb dL_law_399 ?_
  refine va_sld hx hb hX hbl hbA h.2.2 (i := y + 1) h1 dL_law_400 ?_
  refine lv_topi (fun x1 ex1 => ?_)
  refine lv_aload_n hx hb dL_law_401 rfl (lv_at hl 4 rfl) ?_
  refine lv_iload hx hb dL_law_402 (lv_at hl 0 rfl) ?_
  refine lv_iconst (v := 2) hx hb dL_law_404 (by decide) ?_
  refine lv_iadd hx hb dL_law_405 ?_
  refine va_sld hx hb hX hbl hbA h.2.2 (i := y + 2) h2 dL_law_406 ?_
  refine lv_topi (fun x2 ex2 => ?_)
  refine lv_aload_n hx hb dL_law_407 rfl (lv_at hl 4 rfl) ?_
  refine lv_iload hx hb dL_law_408 (lv_at hl 0 rfl) ?_
  refine lv_iconst (v := 3) hx hb dL_law_410 (by decide) ?_
  refine lv_iadd hx hb dL_law_411 ?_
  refine va_sld hx hb hX hbl hbA h.2.2 (i := y + 3) h3 dL_law_412 ?_
  refine lv_topi (fun x3 ex3 => ?_)
  refine lv_aload_n hx hb dL_law_413 rfl (lv_at hl 4 rfl) ?_
  refine lv_iload hx hb dL_law_414 (lv_at hl 0 rfl) ?_
  refine lv_iconst (v := 4) hx hb dL_law_416 (by decide) ?_
  refine lv_iadd hx hb dL_law_417 ?_
  refine va_sld hx hb hX hbl hbA h.2.2 (i := y + 4) h4 dL_law_418 ?_
  refine lv_topi (fun x4 ex4 => ?_)
  refine lv_aload_n hx hb dL_law_419 rfl (lv_at hl 4 rfl) ?_
  refine lv_iload hx hb dL_law_420 (lv_at hl 0 rfl) ?_
  refine lv_iconst (v := 5) hx hb dL_law_422 (by decide) ?_
  refine lv_iadd hx hb dL_law_423 ?_
  refine va_sld hx hb hX hbl hbA h.2.2 (i := y + 5) h5 dL_law_424 ?_
  refine lv_topi (fun x5 ex5 => ?_)
  have hIp1 := h.2.1
  obtain ⟨pn, sn, tc, tp, fa, fb, la, lb, Ln9, Ls9, j2, j3, hF2, ⟨hPa, hPb⟩, ⟨hLa, hLb⟩, ⟨k0, htc⟩, ⟨k10, htp⟩, heq⟩ := id hJ
  have hpn := hF2.1.2.1
  have hsn := hF2.2.1.2.1
  obtain ⟨h3R, pnR, snR, prR, faR, fbR, laR, fcR, izR, hVR⟩ := id hR
  have enR : pnR = pn := Value.ref.inj (hVR.1.1.symm.trans j2)
  subst pnR
  have esR : snR = sn := Value.ref.inj (hVR.1.2.1.symm.trans j3)
  subst snR
  obtain ⟨lmR, tmR, rmR, XaR, XbR, XcR, ⟨kM1, kM2, kM3⟩, ⟨mM1, mM2, mM3⟩, ⟨dAB, dAC, dBC⟩⟩ := id hR.1
  have bfR : zB 0 10 fcR := z_bd h hpn (by decide) rfl hVR.2.2.2.1.1
  obtain ⟨nxR1, knxR1, -⟩ := z_learn (j := 14) h mM1.2.1 (by decide) rfl
  obtain ⟨nxR2, knxR2, -⟩ := z_learn (j := 14) h mM2.2.1 (by decide) rfl
  obtain ⟨nxR3, knxR3, -⟩ := z_learn (j := 14) h mM3.2.1 (by decide) rfl
  obtain ⟨coR, TR, VR, dR, hqR, hbR, hdR⟩ := hVR.rq h
  refine zk_Vi (As := [.int x1, .int x2, .int x3, .int x4, .int x5]) (rest := []) (bytes := cX10_run) (maxL := 6) (ret := (some .int)) Z h (zw_X10_run l D k Γ L F H.size th x1 x2 x3 x4 x5 pn fcR faR coR TR VR dR lmR nxR1 XaR hth j2 hpn hVR.2.2.2.1.1 bfR hqR kM1 mM1.2.1 knxR1 mM1) (cwV 5 hg zv_RLl_58 rfl rfl rfl (by decide +kernel) ⟨(Nat.le_of_ble_eq_true rfl), (Nat.le_of_ble_eq_true rfl)⟩) hth (by decide) rfl rfl hl.1 rfl (Nat.le_of_ble_eq_true rfl) dL_law_425 hcs (fun r1 F1 H locs w h hf1 => ?_)
  have hw := hw.fr hf1 (by unfold zMok; decide +kernel)
  have hfe := hfe.fr hf1 hth hmo (by decide)
  have hJ := hJ.fr hf1 hth hmo (by unfold zJok zJo4; decide +kernel)
  have hD := hD.fr hf1 hth hmo (by unfold zDok; exact ⟨by decide, by unfold zDo1; decide +kernel, by unfold zDo2; decide +kernel, by unfold zDo0; decide, by unfold zDo3; decide⟩) (by unfold zDck; decide)
  have hK := hK.fr hf1 hth hmo (by decide)
  have hE := hE.fr hf1 hth hmo (by unfold zEok; exact ⟨by unfold zEo1; decide, by unfold zEo2; decide, by unfold zEo3; decide +kernel, by unfold zNpM; decide⟩)
  have wR1 := w
  have hYn := hG.1.fr hf1 hmo ⟨⟨by decide, by decide⟩, by decide +kernel⟩
  have hR := hR.fr hf1 hth hmo ⟨(by unfold zRom; decide +kernel), (by decide +kernel), ⟨⟨(by unfold zMC; decide +kernel), (by unfold zMK; decide +kernel)⟩, (by decide +kernel)⟩, ⟨(by unfold zXM; decide +kernel), (by decide +kernel)⟩⟩
  refine lv_pop hx hb dL_law_428 rfl ?_
  refine lv_aload_n hx hb dL_law_429 rfl (lv_at hl 2 rfl) ?_
  refine lv_aload_n hx hb dL_law_430 rfl (lv_at hl 4 rfl) ?_
  refine lv_iload hx hb dL_law_431 (lv_at hl 0 rfl) ?_
  refine lv_iconst (v := 1) hx hb dL_law_433 (by decide) ?_
  refine lv_iadd hx hb dL_law_434 ?_
  refine va_sld hx hb hX hbl hbA h.2.2 (i := y + 1) h1 dL_law_435 ?_
  refine lv_topi (fun x6 ex6 => ?_)
  refine lv_aload_n hx hb dL_law_436 rfl (lv_at hl 4 rfl) ?_
  refine lv_iload hx hb dL_law_437 (lv_at hl 0 rfl) ?_
  refine lv_iconst (v := 2) hx hb dL_law_439 (by decide) ?_
  refine lv_iadd hx hb dL_law_440 ?_
  refine va_sld hx hb hX hbl hbA h.2.2 (i := y + 2) h2 dL_law_441 ?_
  refine lv_topi (fun x7 ex7 => ?_)
  refine lv_aload_n hx hb dL_law_442 rfl (lv_at hl 4 rfl) ?_
  refine lv_iload hx hb dL_law_443 (lv_at hl 0 rfl) ?_
  refine lv_iconst (v := 3) hx hb dL_law_445 (by decide) ?_
  refine lv_iadd hx hb dL_law_446 ?_
  refine va_sld hx hb hX hbl hbA h.2.2 (i := y + 3) h3 dL_law_447 ?_
  refine lv_topi (fun x8 ex8 => ?_)
  refine lv_aload_n hx hb dL_law_448 rfl (lv_at hl 4 rfl) ?_
  refine lv_iload hx hb dL_law_449 (lv_at hl 0 rfl) ?_
  refine lv_iconst (v := 4) hx hb dL_law_451 (by decide) ?_
  refine lv_iadd hx hb dL_law_452 ?_
  refine va_sld hx hb hX hbl hbA h.2.2 (i := y + 4) h4 dL_law_453 ?_
  refine lv_topi (fun x9 ex9 => ?_)
  refine lv_aload_n hx hb dL_law_454 rfl (lv_at hl 4 rfl) ?_
  refine lv_iload hx hb dL_law_455 (lv_at hl 0 rfl) ?_
  refine lv_iconst (v := 5) hx hb dL_law_457 (by decide) ?_
  refine lv_iadd hx hb dL_law_458 ?_
  refine va_sld hx hb hX hbl hbA h.2.2 (i := y + 5) h5 dL_law_459 ?_
  refine lv_topi (fun x10 ex10 => ?_)
  obtain ⟨-, -, -, pr, pq, sp, Lp, Lq, Ls, k4, k5, k6, hP, hMI⟩ := id hw
  obtain ⟨st, kst, hst9⟩ := z_rf (j := 9) (n := 13) h.2.1 hmo (by decide) rfl
  obtain ⟨ltG, wkG, YaG, YbG, ⟨kG1, kG2⟩, ⟨mG1, mG2⟩, dG1, dG2⟩ := id hYn
  have hIp2 := h.2.1
  have erR : prR = pr := Value.ref.inj ((hf1.f hmo 4 ⟨by decide, by decide⟩ hVR.1.2.2).symm.trans k4)
  subst prR
  have kisR := hf1.f hmo 7 ⟨by decide, by decide⟩ hVR.2.2.2.1.2
  have bisR : zB 0 1 izR := z_bd h hmo (by decide) rfl kisR
  obtain ⟨nfR, knfR, bnfR⟩ := z_learn (j := 0) (lo := 0) (hi := 10) h hP.1.2.1 (by decide) rfl
  have hbR1 : izR.toInt ≠ 0 → _ := fun h9 => (⟨(hbR h9).1.fr hf1 hP.1.2.1 ⟨(by unfold zXM; decide +kernel), (by decide +kernel)⟩, (hbR h9).2⟩ : _ ∧ _ ∧ _)
  refine zk_Vi (As := [.int x6, .int x7, .int x8, .int x9, .int x10]) (rest := []) (bytes := cX14_run) (maxL := 7) (ret := (some .int)) Z h (zx_X14_run l D k Γ L F1 H.size mo x6 x7 x8 x9 x10 st pr wkG izR nfR dR TR VR YbG ltG hmo kst hst9 k4 hP.1.2.1 kG2 mG2.2.1 hMI kisR bisR knfR bnfR hbR1 mG2 kG1 mG1.2.1) (cwV 5 hg zv_RLl_61 rfl rfl rfl (by decide +kernel) ⟨(Nat.le_of_ble_eq_true rfl), (Nat.le_of_ble_eq_true rfl)⟩) hmo (by decide) rfl rfl hl.1 rfl (Nat.le_of_ble_eq_true rfl) dL_law_460 hcs (fun r2 F2 H locs w h hf2 => ?_)
  have hw := hw.fr hf2 (by unfold zMok; decide +kernel)
  have hfe := hfe.fr hf2 hth hmo (by decide)
  have hJ := hJ.fr hf2 hth hmo (by unfold zJok zJo4; decide +kernel)
  have hD := hD.fr hf2 hth hmo (by unfold zDok; exact ⟨by decide, by unfold zDo1; decide +kernel, by unfold zDo2; decide +kernel, by unfold zDo0; decide, by unfold zDo3; decide⟩) (by unfold zDck; decide)
  have hK := hK.fr hf2 hth hmo (by decide)
  have hE := hE.fr hf2 hth hmo (by unfold zEok; exact ⟨by unfold zEo1; decide, by unfold zEo2; decide, by unfold zEo3; decide +kernel, by unfold zNpM; decide⟩)
  have e11 : x6 = x1 := ex6.trans ex1.symm
  have e12 : x7 = x2 := ex7.trans ex2.symm
  have e13 : x8 = x3 := ex8.trans ex3.symm
  have e14 : x9 = x4 := ex9.trans ex4.symm
  have e15 : x10 = x5 := ex10.trans ex5.symm
  have wR2 := w
  rw [e11, e12, e13, e14, e15] at wR2
  have hOO : (fcR.toInt ≠ 0 ∧ 0 ≤ x1.toInt ∧ x1.toInt < fcR.toInt ∧ 1 ≤ x5.toInt ∧ x5.toInt ≤ 2000) ↔ (izR.toInt ≠ 0 ∧ 0 ≤ x1.toInt ∧ x1.toInt < nfR.toInt ∧ 1 ≤ x5.toInt ∧ x5.toInt ≤ 2000) := by
    rcases hdR with ⟨g1, g2⟩ | ⟨g1, g2, g3⟩
    · exact ⟨fun q => absurd g2 q.1, fun q => absurd g1 q.1⟩
    · have g4 := (hbR1 g1).1.fc knfR
      constructor
      · rintro ⟨q1, q2, q3, q4⟩
        exact ⟨g1, q2, by omega, q4⟩
      · rintro ⟨q1, q2, q3, q4⟩
        exact ⟨by omega, q2, by omega, q4⟩
  have hO1 : (fcR.toInt ≠ 0 ∧ 0 ≤ x1.toInt ∧ x1.toInt < fcR.toInt ∧ 1 ≤ x5.toInt ∧ x5.toInt ≤ 2000) → (0 ≤ x1.toInt ∧ x1.toInt < (zfc dR : Int)) ∧ zAn (zAa TR VR dR) (zac dR) := fun q => by
    rcases hdR with ⟨g1, g2⟩ | ⟨g1, g2, g3⟩
    · exact absurd g2 q.1
    · exact ⟨⟨q.2.1, by omega⟩, (hbR1 g1).2.2⟩
  have hG := hG.run hIp1 hIp2 hf1 hf2 hth hmo ⟨by decide, by unfold zKoF; decide +kernel, by unfold zKoT; decide +kernel⟩ ⟨⟨by decide, by decide⟩, by decide +kernel, by unfold zKoV; decide +kernel⟩ kM1 mM1 kG1 kG2 mG1 mG2 dG1 hOO hO1 wR1.2.1 wR1.2.2 (fun q => (wR2.1.1 q).1) wR2.2.2.1 wR2.2.2.2.1 wR2.2.1
  have hR := hR.fr hf2 hth hmo ⟨(by unfold zRom; decide +kernel), (by decide +kernel), ⟨⟨(by unfold zMC; decide +kernel), (by unfold zMK; decide +kernel)⟩, (by decide +kernel)⟩, ⟨(by unfold zXM; decide +kernel), (by decide +kernel)⟩⟩
  refine lv_pop hx hb dL_law_463 rfl ?_
  refine lv_goto (tgt := 970) hx hb dL_law_464 (by decide) ?_
  refine W.widen (k := cells + 1) (n := slots + 6) (Nat.le_add_right _ _) (Nat.le_add_right _ _) ?_
  exact kk F2 H locs ls fe h hw hfe hJ hK hD hE hR hG hl

set_option maxHeartbeats 4000000 in
set_option maxRecDepth 100000 in
theorem law_case_8 (hst : l.stackTraces = false) (Z : zC p m c cL_law 7 s #[Value.ref b] zGL RL D k L) (hX : va_X b Ln xs s s.heap) (hbl : b < s.heap.size) (hbA : ¬ zA L s.heap.size b) (h : zH D k Γ L s F H locs) (hw : zIw Γ F th mo o) (hfe : zFe F th mo fe) (hJ : zJw Γ F th mo fe) (hK : zKw F th mo) (hD : zDw Γ F th mo) (hE : zEw Γ F th mo) (hR : zRw Γ F th mo) (hG : zKl Γ F th mo) (hl : lv_has ls 7 [(4, .int y), (3, .ref o), (2, .ref mo), (1, .ref th), (0, .ref b)]) (h1 : vp_in (y + 1) Ln) (h2 : vp_in (y + 2) Ln) (h3 : vp_in (y + 3) Ln) (h4 : vp_in (y + 4) Ln) (h5 : vp_in (y + 5) Ln) (hrm : cells + 1 ≤ room_1.cells ∧ slots + 6 ≤ room_1.slots) (kk : ∀ (F : Nat → va_E) (H : Heap) (locs : List Loc) (ls : Array Slot) (fe : Int32), zH D k Γ L s F H locs → zIw Γ F th mo o → zFe F th mo fe → zJw Γ F th mo fe → zKw F th mo → zDw Γ F th mo → zEw Γ F th mo → zRw Γ F th mo → zKl Γ F th mo → lv_has ls 7 [(4, .int y), (3, .ref o), (2, .ref mo), (1, .ref th), (0, .ref b)] → W p l e room_1 s m #[Value.ref b] below meth c H locs (cells + 1) (slots + 6) Q (F0 m 970 ls [])) : W p l e room_1 s m #[Value.ref b] below meth c H locs cells slots Q (F0 m 467 ls []) := by
  obtain ⟨hth, hmo, ho, -⟩ := id hw
  have hx := Z.1.1
  have hb := Z.1.2.1
  have hg := Z.1.2.2.2.2
  have hcs : cells ≤ room_1.cells ∧ slots ≤ room_1.slots := ⟨Nat.le_trans (Nat.le_add_right _ _) hrm.1, Nat.le_trans (Nat.le_add_right _ _) hrm.2⟩
  refine lv_aload_n hx hb dL_law_467 rfl (lv_at hl 3 rfl) ?_
  refine lv_aload_n hx hb dL_law_468 rfl (lv_at hl 4 rfl) ?_
  refine lv_iload hx hb dL_law_469 (lv_at hl 0 rfl) ?_
  refine lv_iconst (v := 1) hx hb dL_law_471 (by decide) ?_
  refine lv_iadd hx hb dL_law_472 ?_
  refine va_sld hx hb hX hbl hbA h.2.2 (i := y + 1) h1 dL_law_473 ?_
  refine lv_topi (fun x1 ex1 => ?_)
  have hIp1 := h.2.1
  obtain ⟨pn, sn, tc, tp, fa, fb, la, lb, Ln9, Ls9, j2, j3, hF2, ⟨hPa, hPb⟩, ⟨hLa, hLb⟩, ⟨k0, htc⟩, ⟨k10, htp⟩, heq⟩ := id hJ
  have hpn := hF2.1.2.1
  have hsn := hF2.2.1.2.1
  refine zk_Vi (As := [.int x1]) (rest := []) (bytes := cX10_ran) (maxL := 2) (ret := (some .int)) Z h (zc_X10_ran l D k Γ L F H.size th x1 hth) (cwV 1 hg zv_RLl_62 rfl rfl rfl (by decide +kernel) ⟨(Nat.le_of_ble_eq_true rfl), (Nat.le_of_ble_eq_true rfl)⟩) hth (by decide) rfl rfl hl.1 rfl (Nat.le_of_ble_eq_true rfl) dL_law_474 hcs (fun r1 F1 H locs w h hf1 => ?_)
  have hw := hw.fr hf1 (by unfold zMok; decide +kernel)
  have hfe := hfe.fr hf1 hth hmo (by decide)
  have hJ := hJ.fr hf1 hth hmo (by unfold zJok zJo4; decide +kernel)
  have hD := hD.fr hf1 hth hmo (by unfold zDok; exact ⟨by decide, by unfold zDo1; decide +kernel, by unfold zDo2; decide +kernel, by unfold zDo0; decide, by unfold zDo3; decide⟩) (by unfold zDck; decide)
  have hK := hK.fr hf1 hth hmo (by decide)
  have hE := hE.fr hf1 hth hmo (by unfold zEok; exact ⟨by unfold zEo1; decide, by unfold zEo2; decide, by unfold zEo3; decide +kernel, by unfold zNpM; decide⟩)
  have hG := hG.fr hIp1 hf1 hth hmo ⟨⟨by decide, by decide⟩, (by unfold zKoF; decide +kernel), (by unfold zKoV; decide +kernel), (by unfold zKoT; decide +kernel)⟩
  have hR := hR.fr hf1 hth hmo ⟨(by unfold zRom; decide +kernel), (by decide +kernel), ⟨⟨(by unfold zMC; decide +kernel), (by unfold zMK; decide +kernel)⟩, (by decide +kernel)⟩, ⟨(by unfold zXM; decide +kernel), (by decide +kernel)⟩⟩
  refine lv_pop hx hb dL_law_477 rfl ?_
  refine lv_aload_n hx hb dL_law_478 rfl (lv_at hl 2 rfl) ?_
  refine lv_aload_n hx hb dL_law_479 rfl (lv_at hl 4 rfl) ?_
  refine lv_iload hx hb dL_law_480 (lv_at hl 0 rfl) ?_
  refine lv_iconst (v := 1) hx hb dL_law_482 (by decide) ?_
  refine lv_iadd hx hb dL_law_483 ?_
  refine va_sld hx hb hX hbl hbA h.2.2 (i := y + 1) h1 dL_law_484 ?_
  refine lv_topi (fun x2 ex2 => ?_)
  obtain ⟨-, -, -, pr, pq, sp, Lp, Lq, Ls, k4, k5, k6, hP, hMI⟩ := id hw
  obtain ⟨ltG, wkG, YaG, YbG, ⟨kG1, kG2⟩, ⟨mG1, mG2⟩, dG1, dG2⟩ := id hG.1
  have hIp2 := h.2.1
  refine zk_Vi (As := [.int x2]) (rest := []) (bytes := cX14_ran) (maxL := 2) (ret := (some .int)) Z h (zc_X14_ran l D k Γ L F1 H.size mo x2 ltG hmo kG1 mG1.2.1) (cwV 1 hg zv_RLl_65 rfl rfl rfl (by decide +kernel) ⟨(Nat.le_of_ble_eq_true rfl), (Nat.le_of_ble_eq_true rfl)⟩) hmo (by decide) rfl rfl hl.1 rfl (Nat.le_of_ble_eq_true rfl) dL_law_485 hcs (fun r2 F2 H locs w h hf2 => ?_)
  have hw := hw.fr hf2 (by unfold zMok; decide +kernel)
  have hfe := hfe.fr hf2 hth hmo (by decide)
  have hJ := hJ.fr hf2 hth hmo (by unfold zJok zJo4; decide +kernel)
  have hD := hD.fr hf2 hth hmo (by unfold zDok; exact ⟨by decide, by unfold zDo1; decide +kernel, by unfold zDo2; decide +kernel, by unfold zDo0; decide, by unfold zDo3; decide⟩) (by unfold zDck; decide)
  have hK := hK.fr hf2 hth hmo (by decide)
  have hE := hE.fr hf2 hth hmo (by unfold zEok; exact ⟨by unfold zEo1; decide, by unfold zEo2; decide, by unfold zEo3; decide +kernel, by unfold zNpM; decide⟩)
  have hG := hG.fr hIp2 hf2 hth hmo ⟨⟨by decide, by decide⟩, (by unfold zKoF; decide +kernel), (by unfold zKoV; decide +kernel), (by unfold zKoT; decide +kernel)⟩
  have hR := hR.fr hf2 hth hmo ⟨(by unfold zRom; decide +kernel), (by decide +kernel), ⟨⟨(by unfold zMC; decide +kernel), (by unfold zMK; decide +kernel)⟩, (by decide +kernel)⟩, ⟨(by unfold zXM; decide +kernel), (by decide +kernel)⟩⟩
  refine lv_pop hx hb dL_law_488 rfl ?_
  refine lv_goto (tgt := 970) hx hb dL_law_489 (by decide) ?_
  refine W.widen (k := cells + 1) (n := slots + 6) (Nat.le_add_right _ _) (Nat.le_add_right _ _) ?_
  exact kk F2 H locs ls fe h hw hfe hJ hK hD hE hR hG hl

set_option maxHeartbeats 4000000 in
set_option maxRecDepth 100000 in
theorem law_case_9 (hst : l.stackTraces = false) (Z : zC p m c cL_law 7 s #[Value.ref b] zGL RL D k L) (hX : va_X b Ln xs s s.heap) (hbl : b < s.heap.size) (hbA : ¬ zA L s.heap.size b) (h : zH D k Γ L s F H locs) (hw : zIw Γ F th mo o) (hfe : zFe F th mo fe) (hJ : zJw Γ F th mo fe) (hK : zKw F th mo) (hD : zDw Γ F th mo) (hE : zEw Γ F th mo) (hR : zRw Γ F th mo) (hG : zKl Γ F th mo) (hl : lv_has ls 7 [(4, .int y), (3, .ref o), (2, .ref mo), (1, .ref th), (0, .ref b)]) (h1 : vp_in (y + 1) Ln) (h2 : vp_in (y + 2) Ln) (h3 : vp_in (y + 3) Ln) (h4 : vp_in (y + 4) Ln) (h5 : vp_in (y + 5) Ln) (hrm : cells + 1 ≤ room_1.cells ∧ slots + 6 ≤ room_1.slots) (kk : ∀ (F : Nat → va_E) (H : Heap) (locs : List Loc) (ls : Array Slot) (fe : Int32), zH D k Γ L s F H locs → zIw Γ F th mo o → zFe F th mo fe → zJw Γ F th mo fe → zKw F th mo → zDw Γ F th mo → zEw Γ F th mo → zRw Γ F th mo → zKl Γ F th mo → lv_has ls 7 [(4, .int y), (3, .ref o), (2, .ref mo), (1, .ref th), (0, .ref b)] → W p l e room_1 s m #[Value.ref b] below meth c H locs (cells + 1) (slots + 6) Q (F0 m 970 ls [])) : W p l e room_1 s m #[Value.ref b] below meth c H locs cells slots Q (F0 m 492 ls []) := by
  obtain ⟨hth, hmo, ho, -⟩ := id hw
  have hx := Z.1.1
  have hb := Z.1.2.1
  have hg := Z.1.2.2.2.2
  have hcs : cells ≤ room_1.cells ∧ slots ≤ room_1.slots := ⟨Nat.le_trans (Nat.le_add_right _ _) hrm.1, Nat.le_trans (Nat.le_add_right _ _) hrm.2⟩
  refine lv_aload_n hx hb dL_law_492 rfl (lv_at hl 3 rfl) ?_
  refine lv_aload_n hx hb dL_law_493 rfl (lv_at hl 4 rfl) ?_
  refine lv_iload hx hb dL_law_494 (lv_at hl 0 rfl) ?_
  refine lv_iconst (v := 1) hx hb dL_law_496 (by decide) ?_
  refine lv_iadd hx hb dL_law_497 ?_
  refine va_sld hx hb hX hbl hbA h.2.2 (i := y + 1) h1 dL_law_498 ?_
  refine lv_topi (fun x1 ex1 => ?_)
  refine lv_aload_n hx hb dL_law_499 rfl (lv_at hl 1 rfl) ?_
  have hIp1 := h.2.1
  obtain ⟨pn, sn, tc, tp, fa, fb, la, lb, Ln9, Ls9, j2, j3, hF2, ⟨hPa, hPb⟩, ⟨hLa, hLb⟩, ⟨k0, htc⟩, ⟨k10, htp⟩, heq⟩ := id hJ
  have hpn := hF2.1.2.1
  have hsn := hF2.2.1.2.1
  refine va_calli (vx_runSW (As := [.ref th, .int x1, .ref o]) (rest := []) Z.1 (zc_L_said l hst D k Γ L F H.size th x1 o hth ho) (vx_cwSW 3 hg zv_RLs_66 rfl rfl rfl (by decide +kernel) ⟨(Nat.le_of_ble_eq_true rfl), (Nat.le_of_ble_eq_true rfl)⟩) ⟨zP_blind, zP_pre Z h⟩ rfl rfl hl.1 rfl (lv_room (Nat.le_of_ble_eq_true rfl)) dL_law_500 hrm) h.2.2 (fun q _ g => zA_in h.2.2 q g) (zA_in h.2.2) (fun r1 F1 t H1 locs1 ht _ w hB _ _ hS => ?_)
  have h : zH D k Γ L s F1 H1 locs1 := ⟨by rw [← ht]; exact hB.1, hB.2.1, hS⟩
  have hf1 : zFr Γ [15400] F F1 := hB.2.2
  generalize H1 = H at h ⊢
  generalize locs1 = locs at h ⊢
  have hw := hw.fr hf1 (by unfold zMok; decide +kernel)
  have hfe := hfe.fr hf1 hth hmo (by decide)
  have hJ := hJ.fr hf1 hth hmo (by unfold zJok zJo4; decide +kernel)
  have hD := hD.fr hf1 hth hmo (by unfold zDok; exact ⟨by decide, by unfold zDo1; decide +kernel, by unfold zDo2; decide +kernel, by unfold zDo0; decide, by unfold zDo3; decide⟩) (by unfold zDck; decide)
  have hK := hK.fr hf1 hth hmo (by decide)
  have hE := hE.fr hf1 hth hmo (by unfold zEok; exact ⟨by unfold zEo1; decide, by unfold zEo2; decide, by unfold zEo3; decide +kernel, by unfold zNpM; decide⟩)
  have hG := hG.fr hIp1 hf1 hth hmo ⟨⟨by decide, by decide⟩, (by unfold zKoF; decide +kernel), (by unfold zKoV; decide +kernel), (by unfold zKoT; decide +kernel)⟩
  have hR := hR.fr hf1 hth hmo ⟨(by unfold zRom; decide +kernel), (by decide +kernel), ⟨⟨(by unfold zMC; decide +kernel), (by unfold zMK; decide +kernel)⟩, (by decide +kernel)⟩, ⟨(by unfold zXM; decide +kernel), (by decide +kernel)⟩⟩
  refine lv_istore (lv' := [(5, .int r1), (4, .int y), (3, .ref o), (2, .ref mo), (1, .ref th), (0, .ref b)]) hx hb dL_law_503 hl (by decide) rfl (fun ls hl => ?_)
  have hl := lv_sub (l' := [(4, .int y), (3, .ref o), (2, .ref mo), (1, .ref th), (0, .ref b)]) hl [1, 2, 3, 4, 5] rfl
  refine lv_aload_n hx hb dL_law_505 rfl (lv_at hl 2 rfl) ?_
  refine lv_aload_n hx hb dL_law_506 rfl (lv_at hl 4 rfl) ?_
  refine lv_iload hx hb dL_law_507 (lv_at hl 0 rfl) ?_
  refine lv_iconst (v := 1) hx hb dL_law_509 (by decide) ?_
  refine lv_iadd hx hb dL_law_510 ?_
  refine va_sld hx hb hX hbl hbA h.2.2 (i := y + 1) h1 dL_law_511 ?_
  refine lv_topi (fun x2 ex2 => ?_)
  obtain ⟨-, -, -, pr, pq, sp, Lp, Lq, Ls, k4, k5, k6, hP, hMI⟩ := id hw
  obtain ⟨ltG, wkG, YaG, YbG, ⟨kG1, kG2⟩, ⟨mG1, mG2⟩, dG1, dG2⟩ := id hG.1
  have hIp2 := h.2.1
  refine zk_Vi (As := [.int x2]) (rest := []) (bytes := cX14_said) (maxL := 2) (ret := (some .int)) Z h (zc_X14_said l D k Γ L F1 H.size mo x2 ltG hmo kG1 mG1.2.1) (cwV 1 hg zv_RLl_69 rfl rfl rfl (by decide +kernel) ⟨(Nat.le_of_ble_eq_true rfl), (Nat.le_of_ble_eq_true rfl)⟩) hmo (by decide) rfl rfl hl.1 rfl (Nat.le_of_ble_eq_true rfl) dL_law_512 hrm (fun r2 F2 H locs w h hf2 => ?_)
  have hw := hw.fr hf2 (by unfold zMok; decide +kernel)
  have hfe := hfe.fr hf2 hth hmo (by decide)
  have hJ := hJ.fr hf2 hth hmo (by unfold zJok zJo4; decide +kernel)
  have hD := hD.fr hf2 hth hmo (by unfold zDok; exact ⟨by decide, by unfold zDo1; decide +kernel, by unfold zDo2; decide +kernel, by unfold zDo0; decide, by unfold zDo3; decide⟩) (by unfold zDck; decide)
  have hK := hK.fr hf2 hth hmo (by decide)
  have hE := hE.fr hf2 hth hmo (by unfold zEok; exact ⟨by unfold zEo1; decide, by unfold zEo2; decide, by unfold zEo3; decide +kernel, by unfold zNpM; decide⟩)
  have hG := hG.fr hIp2 hf2 hth hmo ⟨⟨by decide, by decide⟩, (by unfold zKoF; decide +kernel), (by unfold zKoV; decide +kernel), (by unfold zKoT; decide +kernel)⟩
  have hR := hR.fr hf2 hth hmo ⟨(by unfold zRom; decide +kernel), (by decide +kernel), ⟨⟨(by unfold zMC; decide +kernel), (by unfold zMK; decide +kernel)⟩, (by decide +kernel)⟩, ⟨(by unfold zXM; decide +kernel), (by decide +kernel)⟩⟩
  refine lv_istore (lv' := [(6, .int r2), (4, .int y), (3, .ref o), (2, .ref mo), (1, .ref th), (0, .ref b)]) hx hb dL_law_515 hl (by decide) rfl (fun ls hl => ?_)
  have hl := lv_sub (l' := [(4, .int y), (3, .ref o), (2, .ref mo), (1, .ref th), (0, .ref b)]) hl [1, 2, 3, 4, 5] rfl
  refine lv_goto (tgt := 970) hx hb dL_law_517 (by decide) ?_
  exact kk F2 H locs ls fe h hw hfe hJ hK hD hE hR hG hl

set_option maxHeartbeats 4000000 in
set_option maxRecDepth 100000 in
theorem law_case_10 (hst : l.stackTraces = false) (Z : zC p m c cL_law 7 s #[Value.ref b] zGL RL D k L) (hX : va_X b Ln xs s s.heap) (hbl : b < s.heap.size) (hbA : ¬ zA L s.heap.size b) (h : zH D k Γ L s F H locs) (hw : zIw Γ F th mo o) (hfe : zFe F th mo fe) (hJ : zJw Γ F th mo fe) (hK : zKw F th mo) (hD : zDw Γ F th mo) (hE : zEw Γ F th mo) (hR : zRw Γ F th mo) (hG : zKl Γ F th mo) (hl : lv_has ls 7 [(4, .int y), (3, .ref o), (2, .ref mo), (1, .ref th), (0, .ref b)]) (h1 : vp_in (y + 1) Ln) (h2 : vp_in (y + 2) Ln) (h3 : vp_in (y + 3) Ln) (h4 : vp_in (y + 4) Ln) (h5 : vp_in (y + 5) Ln) (hrm : cells + 1 ≤ room_1.cells ∧ slots + 6 ≤ room_1.slots) (kk : ∀ (F : Nat → va_E) (H : Heap) (locs : List Loc) (ls : Array Slot) (fe : Int32), zH D k Γ L s F H locs → zIw Γ F th mo o → zFe F th mo fe → zJw Γ F th mo fe → zKw F th mo → zDw Γ F th mo → zEw Γ F th mo → zRw Γ F th mo → zKl Γ F th mo → lv_has ls 7 [(4, .int y), (3, .ref o), (2, .ref mo), (1, .ref th), (0, .ref b)] → W p l e room_1 s m #[Value.ref b] below meth c H locs (cells + 1) (slots + 6) Q (F0 m 970 ls [])) : W p l e room_1 s m #[Value.ref b] below meth c H locs cells slots Q (F0 m 520 ls []) := by
  obtain ⟨hth, hmo, ho, -⟩ := id hw
  have hx := Z.1.1
  have hb := Z.1.2.1
  have hg := Z.1.2.2.2.2
  have hcs : cells ≤ room_1.cells ∧ slots ≤ room_1.slots := ⟨Nat.le_trans (Nat.le_add_right _ _) hrm.1, Nat.le_trans (Nat.le_add_right _ _) hrm.2⟩
  refine lv_aload_n hx hb dL_law_520 rfl (lv_at hl 3 rfl) ?_
  refine lv_aload_n hx hb dL_law_521 rfl (lv_at hl 4 rfl) ?_
  refine lv_iload hx hb dL_law_522 (lv_at hl 0 rfl) ?_
  refine lv_iconst (v := 1) hx hb dL_law_524 (by decide) ?_
  refine lv_iadd hx hb dL_law_525 ?_
  refine va_sld hx hb hX hbl hbA h.2.2 (i := y + 1) h1 dL_law_526 ?_
  refine lv_topi (fun x1 ex1 => ?_)
  refine lv_aload_n hx hb dL_law_527 rfl (lv_at hl 4 rfl) ?_
  refine lv_iload hx hb dL_law_528 (lv_at hl 0 rfl) ?_
  refine lv_iconst (v := 2) hx hb dL_law_530 (by decide) ?_
  refine lv_iadd hx hb dL_law_531 ?_
  refine va_sld hx hb hX hbl hbA h.2.2 (i := y + 2) h2 dL_law_532 ?_
  refine lv_topi (fun x2 ex2 => ?_)
  refine lv_aload_n hx hb dL_law_533 rfl (lv_at hl 1 rfl) ?_
  have hIp1 := h.2.1
  obtain ⟨pn, sn, tc, tp, fa, fb, la, lb, Ln9, Ls9, j2, j3, hF2, ⟨hPa, hPb⟩, ⟨hLa, hLb⟩, ⟨k0, htc⟩, ⟨k10, htp⟩, heq⟩ := id hJ
  have hpn := hF2.1.2.1
  have hsn := hF2.2.1.2.1
  refine va_calli (vx_runSW (As := [.ref th, .int x1, .int x2, .ref o]) (rest := []) Z.1 (zc_L_trace l hst D k Γ L F H.size th x1 x2 o hth ho) (vx_cwSW 4 hg zv_RLs_70 rfl rfl rfl (by decide +kernel) ⟨(Nat.le_of_ble_eq_true rfl), (Nat.le_of_ble_eq_true rfl)⟩) ⟨zP_blind, zP_pre Z h⟩ rfl rfl hl.1 rfl (lv_room (Nat.le_of_ble_eq_true rfl)) dL_law_534 hrm) h.2.2 (fun q _ g => zA_in h.2.2 q g) (zA_in h.2.2) (fun r1 F1 t H1 locs1 ht _ w hB _ _ hS => ?_)
  have h : zH D k Γ L s F1 H1 locs1 := ⟨by rw [← ht]; exact hB.1, hB.2.1, hS⟩
  have hf1 : zFr Γ [15400] F F1 := hB.2.2
  generalize H1 = H at h ⊢
  generalize locs1 = locs at h ⊢
  have hw := hw.fr hf1 (by unfold zMok; decide +kernel)
  have hfe := hfe.fr hf1 hth hmo (by decide)
  have hJ := hJ.fr hf1 hth hmo (by unfold zJok zJo4; decide +kernel)
  have hD := hD.fr hf1 hth hmo (by unfold zDok; exact ⟨by decide, by unfold zDo1; decide +kernel, by unfold zDo2; decide +kernel, by unfold zDo0; decide, by unfold zDo3; decide⟩) (by unfold zDck; decide)
  have hK := hK.fr hf1 hth hmo (by decide)
  have hE := hE.fr hf1 hth hmo (by unfold zEok; exact ⟨by unfold zEo1; decide, by unfold zEo2; decide, by unfold zEo3; decide +kernel, by unfold zNpM; decide⟩)
  have hG := hG.fr hIp1 hf1 hth hmo ⟨⟨by decide, by decide⟩, (by unfold zKoF; decide +kernel), (by unfold zKoV; decide +kernel), (by unfold zKoT; decide +kernel)⟩
  have hR := hR.fr hf1 hth hmo ⟨(by unfold zRom; decide +kernel), (by decide +kernel), ⟨⟨(by unfold zMC; decide +kernel), (by unfold zMK; decide +kernel)⟩, (by decide +kernel)⟩, ⟨(by unfold zXM; decide +kernel), (by decide +kernel)⟩⟩
  refine lv_istore (lv' := [(5, .int r1), (4, .int y), (3, .ref o), (2, .ref mo), (1, .ref th), (0, .ref b)]) hx hb dL_law_537 hl (by decide) rfl (fun ls hl => ?_)
  have hl := lv_sub (l' := [(4, .int y), (3, .ref o), (2, .ref mo), (1, .ref th), (0, .ref b)]) hl [1, 2, 3, 4, 5] rfl
  refine lv_aload_n hx hb dL_law_539 rfl (lv_at hl 2 rfl) ?_
  refine lv_aload_n hx hb dL_law_540 rfl (lv_at hl 4 rfl) ?_
  refine lv_iload hx hb dL_law_541 (lv_at hl 0 rfl) ?_
  refine lv_iconst (v := 1) hx hb dL_law_543 (by decide) ?_
  refine lv_iadd hx hb dL_law_544 ?_
  refine va_sld hx hb hX hbl hbA h.2.2 (i := y + 1) h1 dL_law_545 ?_
  refine lv_topi (fun x3 ex3 => ?_)
  refine lv_aload_n hx hb dL_law_546 rfl (lv_at hl 4 rfl) ?_
  refine lv_iload hx hb dL_law_547 (lv_at hl 0 rfl) ?_
  refine lv_iconst (v := 2) hx hb dL_law_549 (by decide) ?_
  refine lv_iadd hx hb dL_law_550 ?_
  refine va_sld hx hb hX hbl hbA h.2.2 (i := y + 2) h2 dL_law_551 ?_
  refine lv_topi (fun x4 ex4 => ?_)
  obtain ⟨-, -, -, pr, pq, sp, Lp, Lq, Ls, k4, k5, k6, hP, hMI⟩ := id hw
  obtain ⟨ltG, wkG, YaG, YbG, ⟨kG1, kG2⟩, ⟨mG1, mG2⟩, dG1, dG2⟩ := id hG.1
  have hIp2 := h.2.1
  refine zk_Vi (As := [.int x3, .int x4]) (rest := []) (bytes := cX14_trace) (maxL := 3) (ret := (some .int)) Z h (zc_X14_trace l D k Γ L F1 H.size mo x3 x4 ltG hmo kG1 mG1.2.1) (cwV 2 hg zv_RLl_72 rfl rfl rfl (by decide +kernel) ⟨(Nat.le_of_ble_eq_true rfl), (Nat.le_of_ble_eq_true rfl)⟩) hmo (by decide) rfl rfl hl.1 rfl (Nat.le_of_ble_eq_true rfl) dL_law_552 hrm (fun r2 F2 H locs w h hf2 => ?_)
  have hw := hw.fr hf2 (by unfold zMok; decide +kernel)
  have hfe := hfe.fr hf2 hth hmo (by decide)
  have hJ := hJ.fr hf2 hth hmo (by unfold zJok zJo4; decide +kernel)
  have hD := hD.fr hf2 hth hmo (by unfold zDok; exact ⟨by decide, by unfold zDo1; decide +kernel, by unfold zDo2; decide +kernel, by unfold zDo0; decide, by unfold zDo3; decide⟩) (by unfold zDck; decide)
  have hK := hK.fr hf2 hth hmo (by decide)
  have hE := hE.fr hf2 hth hmo (by unfold zEok; exact ⟨by unfold zEo1; decide, by unfold zEo2; decide, by unfold zEo3; decide +kernel, by unfold zNpM; decide⟩)
  have hG := hG.fr hIp2 hf2 hth hmo ⟨⟨by decide, by decide⟩, (by unfold zKoF; decide +kernel), (by unfold zKoV; decide +kernel), (by unfold zKoT; decide +kernel)⟩
  have hR := hR.fr hf2 hth hmo ⟨(by unfold zRom; decide +kernel), (by decide +kernel), ⟨⟨(by unfold zMC; decide +kernel), (by unfold zMK; decide +kernel)⟩, (by decide +kernel)⟩, ⟨(by unfold zXM; decide +kernel), (by decide +kernel)⟩⟩
  refine lv_istore (lv' := [(6, .int r2), (4, .int y), (3, .ref o), (2, .ref mo), (1, .ref th), (0, .ref b)]) hx hb dL_law_555 hl (by decide) rfl (fun ls hl => ?_)
  have hl := lv_sub (l' := [(4, .int y), (3, .ref o), (2, .ref mo), (1, .ref th), (0, .ref b)]) hl [1, 2, 3, 4, 5] rfl
  refine lv_goto (tgt := 970) hx hb dL_law_557 (by decide) ?_
  exact kk F2 H locs ls fe h hw hfe hJ hK hD hE hR hG hl

set_option maxHeartbeats 4000000 in
set_option maxRecDepth 100000 in
theorem law_case_11 (hst : l.stackTraces = false) (Z : zC p m c cL_law 7 s #[Value.ref b] zGL RL D k L) (hX : va_X b Ln xs s s.heap) (hbl : b < s.heap.size) (hbA : ¬ zA L s.heap.size b) (h : zH D k Γ L s F H locs) (hw : zIw Γ F th mo o) (hfe : zFe F th mo fe) (hJ : zJw Γ F th mo fe) (hK : zKw F th mo) (hD : zDw Γ F th mo) (hE : zEw Γ F th mo) (hR : zRw Γ F th mo) (hG : zKl Γ F th mo) (hl : lv_has ls 7 [(4, .int y), (3, .ref o), (2, .ref mo), (1, .ref th), (0, .ref b)]) (h1 : vp_in (y + 1) Ln) (h2 : vp_in (y + 2) Ln) (h3 : vp_in (y + 3) Ln) (h4 : vp_in (y + 4) Ln) (h5 : vp_in (y + 5) Ln) (hrm : cells + 1 ≤ room_1.cells ∧ slots + 6 ≤ room_1.slots) (kk : ∀ (F : Nat → va_E) (H : Heap) (locs : List Loc) (ls : Array Slot) (fe : Int32), zH D k Γ L s F H locs → zIw Γ F th mo o → zFe F th mo fe → zJw Γ F th mo fe → zKw F th mo → zDw Γ F th mo → zEw Γ F th mo → zRw Γ F th mo → zKl Γ F th mo → lv_has ls 7 [(4, .int y), (3, .ref o), (2, .ref mo), (1, .ref th), (0, .ref b)] → W p l e room_1 s m #[Value.ref b] below meth c H locs (cells + 1) (slots + 6) Q (F0 m 970 ls [])) : W p l e room_1 s m #[Value.ref b] below meth c H locs cells slots Q (F0 m 560 ls []) := by
  obtain ⟨hth, hmo, ho, -⟩ := id hw
  have hx := Z.1.1
  have hb := Z.1.2.1
  have hg := Z.1.2.2.2.2
  have hcs : cells ≤ room_1.cells ∧ slots ≤ room_1.slots := ⟨Nat.le_trans (Nat.le_add_right _ _) hrm.1, Nat.le_trans (Nat.le_add_right _ _) hrm.2⟩
  refine lv_aload_n hx hb dL_law_560 rfl (lv_at hl 3 rfl) ?_
  refine lv_aload_n hx hb dL_law_561 rfl (lv_at hl 4 rfl) ?_
  refine lv_iload hx hb dL_law_562 (lv_at hl 0 rfl) ?_
  refine lv_iconst (v := 1) hx hb dL_law_564 (by decide) ?_
  refine lv_iadd hx hb dL_law_565 ?_
  refine va_sld hx hb hX hbl hbA h.2.2 (i := y + 1) h1 dL_law_566 ?_
  refine lv_topi (fun x1 ex1 => ?_)
  have hIp1 := h.2.1
  obtain ⟨pn, sn, tc, tp, fa, fb, la, lb, Ln9, Ls9, j2, j3, hF2, ⟨hPa, hPb⟩, ⟨hLa, hLb⟩, ⟨k0, htc⟩, ⟨k10, htp⟩, heq⟩ := id hJ
  have hpn := hF2.1.2.1
  have hsn := hF2.2.1.2.1
  refine zk_Vi (As := [.int x1]) (rest := []) (bytes := cX10_covered) (maxL := 2) (ret := (some .int)) Z h (zc_X10_covered l D k Γ L F H.size th x1 pn hth j2 hpn) (cwV 1 hg zv_RLl_73 rfl rfl rfl (by decide +kernel) ⟨(Nat.le_of_ble_eq_true rfl), (Nat.le_of_ble_eq_true rfl)⟩) hth (by decide) rfl rfl hl.1 rfl (Nat.le_of_ble_eq_true rfl) dL_law_567 hcs (fun r1 F1 H locs w h hf1 => ?_)
  have hw := hw.fr hf1 (by unfold zMok; decide +kernel)
  have hfe := hfe.fr hf1 hth hmo (by decide)
  have hJ := hJ.fr hf1 hth hmo (by unfold zJok zJo4; decide +kernel)
  have hD := hD.fr hf1 hth hmo (by unfold zDok; exact ⟨by decide, by unfold zDo1; decide +kernel, by unfold zDo2; decide +kernel, by unfold zDo0; decide, by unfold zDo3; decide⟩) (by unfold zDck; decide)
  have hK := hK.fr hf1 hth hmo (by decide)
  have hE := hE.fr hf1 hth hmo (by unfold zEok; exact ⟨by unfold zEo1; decide, by unfold zEo2; decide, by unfold zEo3; decide +kernel, by unfold zNpM; decide⟩)
  have hG := hG.fr hIp1 hf1 hth hmo ⟨⟨by decide, by decide⟩, (by unfold zKoF; decide +kernel), (by unfold zKoV; decide +kernel), (by unfold zKoT; decide +kernel)⟩
  have hR := hR.fr hf1 hth hmo ⟨(by unfold zRom; decide +kernel), (by decide +kernel), ⟨⟨(by unfold zMC; decide +kernel), (by unfold zMK; decide +kernel)⟩, (by decide +kernel)⟩, ⟨(by unfold zXM; decide +kernel), (by decide +kernel)⟩⟩
  refine lv_pop hx hb dL_law_570 rfl ?_
  refine lv_aload_n hx hb dL_law_571 rfl (lv_at hl 2 rfl) ?_
  refine lv_aload_n hx hb dL_law_572 rfl (lv_at hl 4 rfl) ?_
  refine lv_iload hx hb dL_law_573 (lv_at hl 0 rfl) ?_
  refine lv_iconst (v := 1) hx hb dL_law_575 (by decide) ?_
  refine lv_iadd hx hb dL_law_576 ?_
  refine va_sld hx hb hX hbl hbA h.2.2 (i := y + 1) h1 dL_law_577 ?_
  refine lv_topi (fun x2 ex2 => ?_)
  obtain ⟨-, -, -, pr, pq, sp, Lp, Lq, Ls, k4, k5, k6, hP, hMI⟩ := id hw
  obtain ⟨ltG, wkG, YaG, YbG, ⟨kG1, kG2⟩, ⟨mG1, mG2⟩, dG1, dG2⟩ := id hG.1
  have hIp2 := h.2.1
  refine zk_Vi (As := [.int x2]) (rest := []) (bytes := cX14_covered) (maxL := 2) (ret := (some .int)) Z h (zc_X14_covered l D k Γ L F1 H.size mo x2 pr ltG hmo k4 hP.1.2.1 kG1 mG1.2.1) (cwV 1 hg zv_RLl_76 rfl rfl rfl (by decide +kernel) ⟨(Nat.le_of_ble_eq_true rfl), (Nat.le_of_ble_eq_true rfl)⟩) hmo (by decide) rfl rfl hl.1 rfl (Nat.le_of_ble_eq_true rfl) dL_law_578 hcs (fun r2 F2 H locs w h hf2 => ?_)
  have hw := hw.fr hf2 (by unfold zMok; decide +kernel)
  have hfe := hfe.fr hf2 hth hmo (by decide)
  have hJ := hJ.fr hf2 hth hmo (by unfold zJok zJo4; decide +kernel)
  have hD := hD.fr hf2 hth hmo (by unfold zDok; exact ⟨by decide, by unfold zDo1; decide +kernel, by unfold zDo2; decide +kernel, by unfold zDo0; decide, by unfold zDo3; decide⟩) (by unfold zDck; decide)
  have hK := hK.fr hf2 hth hmo (by decide)
  have hE := hE.fr hf2 hth hmo (by unfold zEok; exact ⟨by unfold zEo1; decide, by unfold zEo2; decide, by unfold zEo3; decide +kernel, by unfold zNpM; decide⟩)
  have hG := hG.fr hIp2 hf2 hth hmo ⟨⟨by decide, by decide⟩, (by unfold zKoF; decide +kernel), (by unfold zKoV; decide +kernel), (by unfold zKoT; decide +kernel)⟩
  have hR := hR.fr hf2 hth hmo ⟨(by unfold zRom; decide +kernel), (by decide +kernel), ⟨⟨(by unfold zMC; decide +kernel), (by unfold zMK; decide +kernel)⟩, (by decide +kernel)⟩, ⟨(by unfold zXM; decide +kernel), (by decide +kernel)⟩⟩
  refine lv_pop hx hb dL_law_581 rfl ?_
  refine lv_goto (tgt := 970) hx hb dL_law_582 (by decide) ?_
  refine W.widen (k := cells + 1) (n := slots + 6) (Nat.le_add_right _ _) (Nat.le_add_right _ _) ?_
  exact kk F2 H locs ls fe h hw hfe hJ hK hD hE hR hG hl

set_option maxHeartbeats 4000000 in
set_option maxRecDepth 100000 in
theorem law_case_12 (hst : l.stackTraces = false) (Z : zC p m c cL_law 7 s #[Value.ref b] zGL RL D k L) (hX : va_X b Ln xs s s.heap) (hbl : b < s.heap.size) (hbA : ¬ zA L s.heap.size b) (h : zH D k Γ L s F H locs) (hw : zIw Γ F th mo o) (hfe : zFe F th mo fe) (hJ : zJw Γ F th mo fe) (hK : zKw F th mo) (hD : zDw Γ F th mo) (hE : zEw Γ F th mo) (hR : zRw Γ F th mo) (hG : zKl Γ F th mo) (hl : lv_has ls 7 [(4, .int y), (3, .ref o), (2, .ref mo), (1, .ref th), (0, .ref b)]) (h1 : vp_in (y + 1) Ln) (h2 : vp_in (y + 2) Ln) (h3 : vp_in (y + 3) Ln) (h4 : vp_in (y + 4) Ln) (h5 : vp_in (y + 5) Ln) (hrm : cells + 1 ≤ room_1.cells ∧ slots + 6 ≤ room_1.slots) (kk : ∀ (F : Nat → va_E) (H : Heap) (locs : List Loc) (ls : Array Slot) (fe : Int32), zH D k Γ L s F H locs → zIw Γ F th mo o → zFe F th mo fe → zJw Γ F th mo fe → zKw F th mo → zDw Γ F th mo → zEw Γ F th mo → zRw Γ F th mo → zKl Γ F th mo → lv_has ls 7 [(4, .int y), (3, .ref o), (2, .ref mo), (1, .ref th), (0, .ref b)] → W p l e room_1 s m #[Value.ref b] below meth c H locs (cells + 1) (slots + 6) Q (F0 m 970 ls [])) : W p l e room_1 s m #[Value.ref b] below meth c H locs cells slots Q (F0 m 585 ls []) := by
  obtain ⟨hth, hmo, ho, -⟩ := id hw
  have hx := Z.1.1
  have hb := Z.1.2.1
  have hg := Z.1.2.2.2.2
  have hcs : cells ≤ room_1.cells ∧ slots ≤ room_1.slots := ⟨Nat.le_trans (Nat.le_add_right _ _) hrm.1, Nat.le_trans (Nat.le_add_right _ _) hrm.2⟩
  refine lv_aload_n hx hb dL_law_585 rfl (lv_at hl 3 rfl) ?_
  refine lv_aload_n hx hb dL_law_586 rfl (lv_at hl 4 rfl) ?_
  refine lv_iload hx hb dL_law_587 (lv_at hl 0 rfl) ?_
  refine lv_iconst (v := 1) hx hb dL_law_589 (by decide) ?_
  refine lv_iadd hx hb dL_law_590 ?_
  refine va_sld hx hb hX hbl hbA h.2.2 (i := y + 1) h1 dL_law_591 ?_
  refine lv_topi (fun x1 ex1 => ?_)
  have hIp1 := h.2.1
  obtain ⟨pn, sn, tc, tp, fa, fb, la, lb, Ln9, Ls9, j2, j3, hF2, ⟨hPa, hPb⟩, ⟨hLa, hLb⟩, ⟨k0, htc⟩, ⟨k10, htp⟩, heq⟩ := id hJ
  have hpn := hF2.1.2.1
  have hsn := hF2.2.1.2.1
  refine zk_Vi (As := [.int x1]) (rest := []) (bytes := cX10_place) (maxL := 2) (ret := (some .int)) Z h (zc_X10_place l D k Γ L F H.size th x1 hth) (cwV 1 hg zv_RLl_77 rfl rfl rfl (by decide +kernel) ⟨(Nat.le_of_ble_eq_true rfl), (Nat.le_of_ble_eq_true rfl)⟩) hth (by decide) rfl rfl hl.1 rfl (Nat.le_of_ble_eq_true rfl) dL_law_592 hcs (fun r1 F1 H locs w h hf1 => ?_)
  have hw := hw.fr hf1 (by unfold zMok; decide +kernel)
  have hfe := hfe.fr hf1 hth hmo (by decide)
  have hJ := hJ.fr hf1 hth hmo (by unfold zJok zJo4; decide +kernel)
  have hD := hD.fr hf1 hth hmo (by unfold zDok; exact ⟨by decide, by unfold zDo1; decide +kernel, by unfold zDo2; decide +kernel, by unfold zDo0; decide, by unfold zDo3; decide⟩) (by unfold zDck; decide)
  have hK := hK.fr hf1 hth hmo (by decide)
  have hE := hE.fr hf1 hth hmo (by unfold zEok; exact ⟨by unfold zEo1; decide, by unfold zEo2; decide, by unfold zEo3; decide +kernel, by unfold zNpM; decide⟩)
  have hG := hG.fr hIp1 hf1 hth hmo ⟨⟨by decide, by decide⟩, (by unfold zKoF; decide +kernel), (by unfold zKoV; decide +kernel), (by unfold zKoT; decide +kernel)⟩
  have hR := hR.fr hf1 hth hmo ⟨(by unfold zRom; decide +kernel), (by decide +kernel), ⟨⟨(by unfold zMC; decide +kernel), (by unfold zMK; decide +kernel)⟩, (by decide +kernel)⟩, ⟨(by unfold zXM; decide +kernel), (by decide +kernel)⟩⟩
  refine lv_pop hx hb dL_law_595 rfl ?_
  refine lv_aload_n hx hb dL_law_596 rfl (lv_at hl 2 rfl) ?_
  refine lv_aload_n hx hb dL_law_597 rfl (lv_at hl 4 rfl) ?_
  refine lv_iload hx hb dL_law_598 (lv_at hl 0 rfl) ?_
  refine lv_iconst (v := 1) hx hb dL_law_600 (by decide) ?_
  refine lv_iadd hx hb dL_law_601 ?_
  refine va_sld hx hb hX hbl hbA h.2.2 (i := y + 1) h1 dL_law_602 ?_
  refine lv_topi (fun x2 ex2 => ?_)
  obtain ⟨-, -, -, pr, pq, sp, Lp, Lq, Ls, k4, k5, k6, hP, hMI⟩ := id hw
  obtain ⟨ltG, wkG, YaG, YbG, ⟨kG1, kG2⟩, ⟨mG1, mG2⟩, dG1, dG2⟩ := id hG.1
  have hIp2 := h.2.1
  refine zk_Vi (As := [.int x2]) (rest := []) (bytes := cX14_place) (maxL := 2) (ret := (some .int)) Z h (zc_X14_place l D k Γ L F1 H.size mo x2 ltG hmo kG1 mG1.2.1) (cwV 1 hg zv_RLl_80 rfl rfl rfl (by decide +kernel) ⟨(Nat.le_of_ble_eq_true rfl), (Nat.le_of_ble_eq_true rfl)⟩) hmo (by decide) rfl rfl hl.1 rfl (Nat.le_of_ble_eq_true rfl) dL_law_603 hcs (fun r2 F2 H locs w h hf2 => ?_)
  have hw := hw.fr hf2 (by unfold zMok; decide +kernel)
  have hfe := hfe.fr hf2 hth hmo (by decide)
  have hJ := hJ.fr hf2 hth hmo (by unfold zJok zJo4; decide +kernel)
  have hD := hD.fr hf2 hth hmo (by unfold zDok; exact ⟨by decide, by unfold zDo1; decide +kernel, by unfold zDo2; decide +kernel, by unfold zDo0; decide, by unfold zDo3; decide⟩) (by unfold zDck; decide)
  have hK := hK.fr hf2 hth hmo (by decide)
  have hE := hE.fr hf2 hth hmo (by unfold zEok; exact ⟨by unfold zEo1; decide, by unfold zEo2; decide, by unfold zEo3; decide +kernel, by unfold zNpM; decide⟩)
  have hG := hG.fr hIp2 hf2 hth hmo ⟨⟨by decide, by decide⟩, (by unfold zKoF; decide +kernel), (by unfold zKoV; decide +kernel), (by unfold zKoT; decide +kernel)⟩
  have hR := hR.fr hf2 hth hmo ⟨(by unfold zRom; decide +kernel), (by decide +kernel), ⟨⟨(by unfold zMC; decide +kernel), (by unfold zMK; decide +kernel)⟩, (by decide +kernel)⟩, ⟨(by unfold zXM; decide +kernel), (by decide +kernel)⟩⟩
  refine lv_pop hx hb dL_law_606 rfl ?_
  refine lv_goto (tgt := 970) hx hb dL_law_607 (by decide) ?_
  refine W.widen (k := cells + 1) (n := slots + 6) (Nat.le_add_right _ _) (Nat.le_add_right _ _) ?_
  exact kk F2 H locs ls fe h hw hfe hJ hK hD hE hR hG hl

set_option maxHeartbeats 4000000 in
set_option maxRecDepth 100000 in
theorem law_case_13 (hst : l.stackTraces = false) (Z : zC p m c cL_law 7 s #[Value.ref b] zGL RL D k L) (hX : va_X b Ln xs s s.heap) (hbl : b < s.heap.size) (hbA : ¬ zA L s.heap.size b) (h : zH D k Γ L s F H locs) (hw : zIw Γ F th mo o) (hfe : zFe F th mo fe) (hJ : zJw Γ F th mo fe) (hK : zKw F th mo) (hD : zDw Γ F th mo) (hE : zEw Γ F th mo) (hR : zRw Γ F th mo) (hG : zKl Γ F th mo) (hl : lv_has ls 7 [(4, .int y), (3, .ref o), (2, .ref mo), (1, .ref th), (0, .ref b)]) (h1 : vp_in (y + 1) Ln) (h2 : vp_in (y + 2) Ln) (h3 : vp_in (y + 3) Ln) (h4 : vp_in (y + 4) Ln) (h5 : vp_in (y + 5) Ln) (hrm : cells + 1 ≤ room_1.cells ∧ slots + 6 ≤ room_1.slots) (kk : ∀ (F : Nat → va_E) (H : Heap) (locs : List Loc) (ls : Array Slot) (fe : Int32), zH D k Γ L s F H locs → zIw Γ F th mo o → zFe F th mo fe → zJw Γ F th mo fe → zKw F th mo → zDw Γ F th mo → zEw Γ F th mo → zRw Γ F th mo → zKl Γ F th mo → lv_has ls 7 [(4, .int y), (3, .ref o), (2, .ref mo), (1, .ref th), (0, .ref b)] → W p l e room_1 s m #[Value.ref b] below meth c H locs (cells + 1) (slots + 6) Q (F0 m 970 ls [])) : W p l e room_1 s m #[Value.ref b] below meth c H locs cells slots Q (F0 m 610 ls []) := by
  obtain ⟨hth, hmo, ho, -⟩ := id hw
  have hx := Z.1.1
  have hb := Z.1.2.1
  have hg := Z.1.2.2.2.2
  have hcs : cells ≤ room_1.cells ∧ slots ≤ room_1.slots := ⟨Nat.le_trans (Nat.le_add_right _ _) hrm.1, Nat.le_trans (Nat.le_add_right _ _) hrm.2⟩
  refine lv_aload_n hx hb dL_law_610 rfl (lv_at hl 3 rfl) ?_
  refine lv_aload_n hx hb dL_law_611 rfl (lv_at hl 4 rfl) ?_
  refine lv_iload hx hb dL_law_612 (lv_at hl 0 rfl) ?_
  refine lv_iconst (v := 1) hx hb dL_law_614 (by decide) ?_
  refine lv_iadd hx hb dL_law_615 ?_
  refine va_sld hx hb hX hbl hbA h.2.2 (i := y + 1) h1 dL_law_616 ?_
  refine lv_topi (fun x1 ex1 => ?_)
  refine lv_aload_n hx hb dL_law_617 rfl (lv_at hl 4 rfl) ?_
  refine lv_iload hx hb dL_law_618 (lv_at hl 0 rfl) ?_
  refine lv_iconst (v := 2) hx hb dL_law_620 (by decide) ?_
  refine lv_iadd hx hb dL_law_621 ?_
  refine va_sld hx hb hX hbl hbA h.2.2 (i := y + 2) h2 dL_law_622 ?_
  refine lv_topi (fun x2 ex2 => ?_)
  refine lv_aload_n hx hb dL_law_623 rfl (lv_at hl 4 rfl) ?_
  refine lv_iload hx hb dL_law_624 (lv_at hl 0 rfl) ?_
  refine lv_iconst (v := 3) hx hb dL_law_626 (by decide) ?_
  refine lv_iadd hx hb dL_law_627 ?_
  refine va_sld hx hb hX hbl hbA h.2.2 (i := y + 3) h3 dL_law_628 ?_
  refine lv_topi (fun x3 ex3 => ?_)
  refine lv_aload_n hx hb dL_law_629 rfl (lv_at hl 4 rfl) ?_
  refine lv_iload hx hb dL_law_630 (lv_at hl 0 rfl) ?_
  refine lv_iconst (v := 4) hx hb dL_law_632 (by decide) ?_
  refine lv_iadd hx hb dL_law_633 ?_
  refine va_sld hx hb hX hbl hbA h.2.2 (i := y + 4) h4 dL_law_634 ?_
  refine lv_topi (fun x4 ex4 => ?_)
  refine lv_aload_n hx hb dL_law_635 rfl (lv_at hl 4 rfl) ?_
  refine lv_iload hx hb dL_law_636 (lv_at hl 0 rfl) ?_
  refine lv_iconst (v := 5) hx hb dL_law_638 (by decide) ?_
  refine lv_iadd hx hb dL_law_639 ?_
  refine va_sld hx hb hX hbl hbA h.2.2 (i := y + 5) h5 dL_law_640 ?_
  refine lv_topi (fun x5 ex5 => ?_)
  have hIp1 := h.2.1
  obtain ⟨pn, sn, tc, tp, fa, fb, la, lb, Ln9, Ls9, j2, j3, hF2, ⟨hPa, hPb⟩, ⟨hLa, hLb⟩, ⟨k0, htc⟩, ⟨k10, htp⟩, heq⟩ := id hJ
  have hpn := hF2.1.2.1
  have hsn := hF2.2.1.2.1
  obtain ⟨h3R, pnR, snR, prR, faR, fbR, laR, fcR, izR, hVR⟩ := id hR
  have enR : pnR = pn := Value.ref.inj (hVR.1.1.symm.trans j2)
  subst pnR
  have esR : snR = sn := Value.ref.inj (hVR.1.2.1.symm.trans j3)
  subst snR
  obtain ⟨lmR, tmR, rmR, XaR, XbR, XcR, ⟨kM1, kM2, kM3⟩, ⟨mM1, mM2, mM3⟩, ⟨dAB, dAC, dBC⟩⟩ := id hR.1
  have bfR : zB 0 10 fcR := z_bd h hpn (by decide) rfl hVR.2.2.2.1.1
  obtain ⟨nxR1, knxR1, -⟩ := z_learn (j := 14) h mM1.2.1 (by decide) rfl
  obtain ⟨nxR2, knxR2, -⟩ := z_learn (j := 14) h mM2.2.1 (by decide) rfl
  obtain ⟨nxR3, knxR3, -⟩ := z_learn (j := 14) h mM3.2.1 (by decide) rfl
  obtain ⟨coR, TR, VR, dR, hqR, hbR, hdR⟩ := hVR.rq h
  refine zk_Vi (As := [.int x1, .int x2, .int x3, .int x4, .int x5]) (rest := []) (bytes := cX10_wrong) (maxL := 6) (ret := (some .int)) Z h (zw_X10_wrong l D k Γ L F H.size th x1 x2 x3 x4 x5 pn fcR faR coR TR VR dR rmR nxR3 XcR hth j2 hpn hVR.2.2.2.1.1 bfR hqR kM3 mM3.2.1 knxR3 mM3) (cwV 5 hg zv_RLl_81 rfl rfl rfl (by decide +kernel) ⟨(Nat.le_of_ble_eq_true rfl), (Nat.le_of_ble_eq_true rfl)⟩) hth (by decide) rfl rfl hl.1 rfl (Nat.le_of_ble_eq_true rfl) dL_law_641 hcs (fun r1 F1 H locs w h hf1 => ?_)
  have hw := hw.fr hf1 (by unfold zMok; decide +kernel)
  have hfe := hfe.fr hf1 hth hmo (by decide)
  have hJ := hJ.fr hf1 hth hmo (by unfold zJok zJo4; decide +kernel)
  have hD := hD.fr hf1 hth hmo (by unfold zDok; exact ⟨by decide, by unfold zDo1; decide +kernel, by unfold zDo2; decide +kernel, by unfold zDo0; decide, by unfold zDo3; decide⟩) (by unfold zDck; decide)
  have hK := hK.fr hf1 hth hmo (by decide)
  have hE := hE.fr hf1 hth hmo (by unfold zEok; exact ⟨by unfold zEo1; decide, by unfold zEo2; decide, by unfold zEo3; decide +kernel, by unfold zNpM; decide⟩)
  have wR1 := w
  have hG := hG.upc hIp1 hf1 hth hmo kM1 mM1 (mM1.sq (fun a t e h1 h2 h3 => wR1.2 a t e h1 h2 (dAC a h3))) ⟨by decide, by unfold zKoF; decide +kernel, by unfold zKoT; decide +kernel⟩
  have hR := hR.fr hf1 hth hmo ⟨(by unfold zRom; decide +kernel), (by decide +kernel), ⟨⟨(by unfold zMC; decide +kernel), (by unfold zMK; decide +kernel)⟩, (by decide +kernel)⟩, ⟨(by unfold zXM; decide +kernel), (by decide +kernel)⟩⟩
  refine lv_pop hx hb dL_law_644 rfl ?_
  refine lv_aload_n hx hb dL_law_645 rfl (lv_at hl 2 rfl) ?_
  refine lv_aload_n hx hb dL_law_646 rfl (lv_at hl 4 rfl) ?_
  refine lv_iload hx hb dL_law_647 (lv_at hl 0 rfl) ?_
  refine lv_iconst (v := 1) hx hb dL_law_649 (by decide) ?_
  refine lv_iadd hx hb dL_law_650 ?_
  refine va_sld hx hb hX hbl hbA h.2.2 (i := y + 1) h1 dL_law_651 ?_
  refine lv_topi (fun x6 ex6 => ?_)
  refine lv_aload_n hx hb dL_law_652 rfl (lv_at hl 4 rfl) ?_
  refine lv_iload hx hb dL_law_653 (lv_at hl 0 rfl) ?_
  refine lv_iconst (v := 2) hx hb dL_law_655 (by decide) ?_
  refine lv_iadd hx hb dL_law_656 ?_
  refine va_sld hx hb hX hbl hbA h.2.2 (i := y + 2) h2 dL_law_657 ?_
  refine lv_topi (fun x7 ex7 => ?_)
  refine lv_aload_n hx hb dL_law_658 rfl (lv_at hl 4 rfl) ?_
  refine lv_iload hx hb dL_law_659 (lv_at hl 0 rfl) ?_
  refine lv_iconst (v := 3) hx hb dL_law_661 (by decide) ?_
  refine lv_iadd hx hb dL_law_662 ?_
  refine va_sld hx hb hX hbl hbA h.2.2 (i := y + 3) h3 dL_law_663 ?_
  refine lv_topi (fun x8 ex8 => ?_)
  refine lv_aload_n hx hb dL_law_664 rfl (lv_at hl 4 rfl) ?_
  refine lv_iload hx hb dL_law_665 (lv_at hl 0 rfl) ?_
  refine lv_iconst (v := 4) hx hb dL_law_667 (by decide) ?_
  refine lv_iadd hx hb dL_law_668 ?_
  refine va_sld hx hb hX hbl hbA h.2.2 (i := y + 4) h4 dL_law_669 ?_
  refine lv_topi (fun x9 ex9 => ?_)
  refine lv_aload_n hx hb dL_law_670 rfl (lv_at hl 4 rfl) ?_
  refine lv_iload hx hb dL_law_671 (lv_at hl 0 rfl) ?_
  refine lv_iconst (v := 5) hx hb dL_law_673 (by decide) ?_
  refine lv_iadd hx hb dL_law_674 ?_
  refine va_sld hx hb hX hbl hbA h.2.2 (i := y + 5) h5 dL_law_675 ?_
  refine lv_topi (fun x10 ex10 => ?_)
  obtain ⟨-, -, -, pr, pq, sp, Lp, Lq, Ls, k4, k5, k6, hP, hMI⟩ := id hw
  obtain ⟨st, kst, hst9⟩ := z_rf (j := 9) (n := 13) h.2.1 hmo (by decide) rfl
  obtain ⟨ltG, wkG, YaG, YbG, ⟨kG1, kG2⟩, ⟨mG1, mG2⟩, dG1, dG2⟩ := id hG.1
  have hIp2 := h.2.1
  have erR : prR = pr := Value.ref.inj ((hf1.f hmo 4 ⟨by decide, by decide⟩ hVR.1.2.2).symm.trans k4)
  subst prR
  have kisR := hf1.f hmo 7 ⟨by decide, by decide⟩ hVR.2.2.2.1.2
  have bisR : zB 0 1 izR := z_bd h hmo (by decide) rfl kisR
  obtain ⟨nfR, knfR, bnfR⟩ := z_learn (j := 0) (lo := 0) (hi := 10) h hP.1.2.1 (by decide) rfl
  have hbR1 : izR.toInt ≠ 0 → _ := fun h9 => (⟨(hbR h9).1.fr hf1 hP.1.2.1 ⟨(by unfold zXM; decide +kernel), (by decide +kernel)⟩, (hbR h9).2⟩ : _ ∧ _ ∧ _)
  refine zk_Vi (As := [.int x6, .int x7, .int x8, .int x9, .int x10]) (rest := []) (bytes := cX14_wrong) (maxL := 6) (ret := (some .int)) Z h (zx_X14_wrong l D k Γ L F1 H.size mo x6 x7 x8 x9 x10 st pr wkG izR nfR dR TR VR YbG hmo kst hst9 k4 hP.1.2.1 kG2 mG2.2.1 hMI kisR bisR knfR bnfR hbR1 mG2) (cwV 5 hg zv_RLl_84 rfl rfl rfl (by decide +kernel) ⟨(Nat.le_of_ble_eq_true rfl), (Nat.le_of_ble_eq_true rfl)⟩) hmo (by decide) rfl rfl hl.1 rfl (Nat.le_of_ble_eq_true rfl) dL_law_676 hcs (fun r2 F2 H locs w h hf2 => ?_)
  have hw := hw.fr hf2 (by unfold zMok; decide +kernel)
  have hfe := hfe.fr hf2 hth hmo (by decide)
  have hJ := hJ.fr hf2 hth hmo (by unfold zJok zJo4; decide +kernel)
  have hD := hD.fr hf2 hth hmo (by unfold zDok; exact ⟨by decide, by unfold zDo1; decide +kernel, by unfold zDo2; decide +kernel, by unfold zDo0; decide, by unfold zDo3; decide⟩) (by unfold zDck; decide)
  have hK := hK.fr hf2 hth hmo (by decide)
  have hE := hE.fr hf2 hth hmo (by unfold zEok; exact ⟨by unfold zEo1; decide, by unfold zEo2; decide, by unfold zEo3; decide +kernel, by unfold zNpM; decide⟩)
  have e11 : x6 = x1 := ex6.trans ex1.symm
  have e12 : x7 = x2 := ex7.trans ex2.symm
  have e13 : x8 = x3 := ex8.trans ex3.symm
  have e14 : x9 = x4 := ex9.trans ex4.symm
  have e15 : x10 = x5 := ex10.trans ex5.symm
  have wR2 := w
  rw [e11, e12, e13, e14, e15] at wR2
  have hG := hG.upr hIp2 hf2 hth hmo kG1 mG1 (mG1.st dG1 wR2.2.1) ⟨by decide, by unfold zKoF; decide +kernel, by unfold zKoV; decide +kernel⟩
  have hR := hR.fr hf2 hth hmo ⟨(by unfold zRom; decide +kernel), (by decide +kernel), ⟨⟨(by unfold zMC; decide +kernel), (by unfold zMK; decide +kernel)⟩, (by decide +kernel)⟩, ⟨(by unfold zXM; decide +kernel), (by decide +kernel)⟩⟩
  refine lv_pop hx hb dL_law_679 rfl ?_
  refine lv_goto (tgt := 970) hx hb dL_law_680 (by decide) ?_
  refine W.widen (k := cells + 1) (n := slots + 6) (Nat.le_add_right _ _) (Nat.le_add_right _ _) ?_
  exact kk F2 H locs ls fe h hw hfe hJ hK hD hE hR hG hl

set_option maxHeartbeats 4000000 in
set_option maxRecDepth 100000 in
theorem law_case_14 (hst : l.stackTraces = false) (Z : zC p m c cL_law 7 s #[Value.ref b] zGL RL D k L) (hX : va_X b Ln xs s s.heap) (hbl : b < s.heap.size) (hbA : ¬ zA L s.heap.size b) (h : zH D k Γ L s F H locs) (hw : zIw Γ F th mo o) (hfe : zFe F th mo fe) (hJ : zJw Γ F th mo fe) (hK : zKw F th mo) (hD : zDw Γ F th mo) (hE : zEw Γ F th mo) (hR : zRw Γ F th mo) (hG : zKl Γ F th mo) (hl : lv_has ls 7 [(4, .int y), (3, .ref o), (2, .ref mo), (1, .ref th), (0, .ref b)]) (h1 : vp_in (y + 1) Ln) (h2 : vp_in (y + 2) Ln) (h3 : vp_in (y + 3) Ln) (h4 : vp_in (y + 4) Ln) (h5 : vp_in (y + 5) Ln) (hrm : cells + 1 ≤ room_1.cells ∧ slots + 6 ≤ room_1.slots) (kk : ∀ (F : Nat → va_E) (H : Heap) (locs : List Loc) (ls : Array Slot) (fe : Int32), zH D k Γ L s F H locs → zIw Γ F th mo o → zFe F th mo fe → zJw Γ F th mo fe → zKw F th mo → zDw Γ F th mo → zEw Γ F th mo → zRw Γ F th mo → zKl Γ F th mo → lv_has ls 7 [(4, .int y), (3, .ref o), (2, .ref mo), (1, .ref th), (0, .ref b)] → W p l e room_1 s m #[Value.ref b] below meth c H locs (cells + 1) (slots + 6) Q (F0 m 970 ls [])) : W p l e room_1 s m #[Value.ref b] below meth c H locs cells slots Q (F0 m 683 ls []) := by
  obtain ⟨hth, hmo, ho, -⟩ := id hw
  have hx := Z.1.1
  have hb := Z.1.2.1
  have hg := Z.1.2.2.2.2
  have hcs : cells ≤ room_1.cells ∧ slots ≤ room_1.slots := ⟨Nat.le_trans (Nat.le_add_right _ _) hrm.1, Nat.le_trans (Nat.le_add_right _ _) hrm.2⟩
  refine lv_aload_n hx hb dL_law_683 rfl (lv_at hl 3 rfl) ?_
  refine lv_aload_n hx hb dL_law_684 rfl (lv_at hl 4 rfl) ?_
  refine lv_iload hx hb dL_law_685 (lv_at hl 0 rfl) ?_
  refine lv_iconst (v := 1) hx hb dL_law_687 (by decide) ?_
  refine lv_iadd hx hb dL_law_688 ?_
  refine va_sld hx hb hX hbl hbA h.2.2 (i := y + 1) h1 dL_law_689 ?_
  refine lv_topi (fun x1 ex1 => ?_)
  refine lv_aload_n hx hb dL_law_690 rfl (lv_at hl 4 rfl) ?_
  refine lv_iload hx hb dL_law_691 (lv_at hl 0 rfl) ?_
  refine lv_iconst (v := 2) hx hb dL_law_693 (by decide) ?_
  refine lv_iadd hx hb dL_law_694 ?_
  refine va_sld hx hb hX hbl hbA h.2.2 (i := y + 2) h2 dL_law_695 ?_
  refine lv_topi (fun x2 ex2 => ?_)
  refine lv_aload_n hx hb dL_law_696 rfl (lv_at hl 4 rfl) ?_
  refine lv_iload hx hb dL_law_697 (lv_at hl 0 rfl) ?_
  refine lv_iconst (v := 3) hx hb dL_law_699 (by decide) ?_
  refine lv_iadd hx hb dL_law_700 ?_
  refine va_sld hx hb hX hbl hbA h.2.2 (i := y + 3) h3 dL_law_701 ?_
  refine lv_topi (fun x3 ex3 => ?_)
  refine lv_aload_n hx hb dL_law_702 rfl (lv_at hl 4 rfl) ?_
  refine lv_iload hx hb dL_law_703 (lv_at hl 0 rfl) ?_
  refine lv_iconst (v := 4) hx hb dL_law_705 (by decide) ?_
  refine lv_iadd hx hb dL_law_706 ?_
  refine va_sld hx hb hX hbl hbA h.2.2 (i := y + 4) h4 dL_law_707 ?_
  refine lv_topi (fun x4 ex4 => ?_)
  have hIp1 := h.2.1
  obtain ⟨pn, sn, tc, tp, fa, fb, la, lb, Ln9, Ls9, j2, j3, hF2, ⟨hPa, hPb⟩, ⟨hLa, hLb⟩, ⟨k0, htc⟩, ⟨k10, htp⟩, heq⟩ := id hJ
  have hpn := hF2.1.2.1
  have hsn := hF2.2.1.2.1
  obtain ⟨h3R, pnR, snR, prR, faR, fbR, laR, fcR, izR, hVR⟩ := id hR
  have enR : pnR = pn := Value.ref.inj (hVR.1.1.symm.trans j2)
  subst pnR
  have esR : snR = sn := Value.ref.inj (hVR.1.2.1.symm.trans j3)
  subst snR
  obtain ⟨lmR, tmR, rmR, XaR, XbR, XcR, ⟨kM1, kM2, kM3⟩, ⟨mM1, mM2, mM3⟩, ⟨dAB, dAC, dBC⟩⟩ := id hR.1
  have bfR : zB 0 10 fcR := z_bd h hpn (by decide) rfl hVR.2.2.2.1.1
  obtain ⟨nxR1, knxR1, -⟩ := z_learn (j := 14) h mM1.2.1 (by decide) rfl
  obtain ⟨nxR2, knxR2, -⟩ := z_learn (j := 14) h mM2.2.1 (by decide) rfl
  obtain ⟨nxR3, knxR3, -⟩ := z_learn (j := 14) h mM3.2.1 (by decide) rfl
  obtain ⟨coR, TR, VR, dR, hqR, hbR, hdR⟩ := hVR.rq h
  refine zk_Vi (As := [.int x1, .int x2, .int x3, .int x4]) (rest := []) (bytes := cX10_unlike) (maxL := 7) (ret := (some .int)) Z h (zw_X10_unlike l D k Γ L F H.size th x1 x2 x3 x4 pn fcR faR coR TR VR dR tmR nxR2 rmR XbR XcR hth j2 hpn hVR.2.2.2.1.1 bfR hqR kM2 mM2.2.1 knxR2 kM3 mM3.2.1 mM2 mM3 dBC) (cwV 4 hg zv_RLl_85 rfl rfl rfl (by decide +kernel) ⟨(Nat.le_of_ble_eq_true rfl), (Nat.le_of_ble_eq_true rfl)⟩) hth (by decide) rfl rfl hl.1 rfl (Nat.le_of_ble_eq_true rfl) dL_law_708 hcs (fun r1 F1 H locs w h hf1 => ?_)
  have hw := hw.fr hf1 (by unfold zMok; decide +kernel)
  have hfe := hfe.fr hf1 hth hmo (by decide)
  have hJ := hJ.fr hf1 hth hmo (by unfold zJok zJo4; decide +kernel)
  have hD := hD.fr hf1 hth hmo (by unfold zDok; exact ⟨by decide, by unfold zDo1; decide +kernel, by unfold zDo2; decide +kernel, by unfold zDo0; decide, by unfold zDo3; decide⟩) (by unfold zDck; decide)
  have hK := hK.fr hf1 hth hmo (by decide)
  have hE := hE.fr hf1 hth hmo (by unfold zEok; exact ⟨by unfold zEo1; decide, by unfold zEo2; decide, by unfold zEo3; decide +kernel, by unfold zNpM; decide⟩)
  have wR1 := w
  have hG := hG.upc hIp1 hf1 hth hmo kM1 mM1 (mM1.sq (fun a t e h1 h2 h3 => wR1.2 a t e h1 h2 (dAB a h3) (dAC a h3))) ⟨by decide, by unfold zKoF; decide +kernel, by unfold zKoT; decide +kernel⟩
  have hR := hR.fr hf1 hth hmo ⟨(by unfold zRom; decide +kernel), (by decide +kernel), ⟨⟨(by unfold zMC; decide +kernel), (by unfold zMK; decide +kernel)⟩, (by decide +kernel)⟩, ⟨(by unfold zXM; decide +kernel), (by decide +kernel)⟩⟩
  refine lv_aload_n hx hb dL_law_711 rfl (lv_at hl 2 rfl) ?_
  refine lv_aload_n hx hb dL_law_712 rfl (lv_at hl 4 rfl) ?_
  refine lv_iload hx hb dL_law_713 (lv_at hl 0 rfl) ?_
  refine lv_iconst (v := 1) hx hb dL_law_715 (by decide) ?_
  refine lv_iadd hx hb dL_law_716 ?_
  refine va_sld hx hb hX hbl hbA h.2.2 (i := y + 1) h1 dL_law_717 ?_
  refine lv_topi (fun x5 ex5 => ?_)
  refine lv_aload_n hx hb dL_law_718 rfl (lv_at hl 4 rfl) ?_
  refine lv_iload hx hb dL_law_719 (lv_at hl 0 rfl) ?_
  refine lv_iconst (v := 2) hx hb dL_law_721 (by decide) ?_
  refine lv_iadd hx hb dL_law_722 ?_
  refine va_sld hx hb hX hbl hbA h.2.2 (i := y + 2) h2 dL_law_723 ?_
  refine lv_topi (fun x6 ex6 => ?_)
  refine lv_aload_n hx hb dL_law_724 rfl (lv_at hl 4 rfl) ?_
  refine lv_iload hx hb dL_law_725 (lv_at hl 0 rfl) ?_
  refine lv_iconst (v := 3) hx hb dL_law_727 (by decide) ?_
  refine lv_iadd hx hb dL_law_728 ?_
  refine va_sld hx hb hX hbl hbA h.2.2 (i := y + 3) h3 dL_law_729 ?_
  refine lv_topi (fun x7 ex7 => ?_)
  refine lv_aload_n hx hb dL_law_730 rfl (lv_at hl 4 rfl) ?_
  refine lv_iload hx hb dL_law_731 (lv_at hl 0 rfl) ?_
  refine lv_iconst (v := 4) hx hb dL_law_733 (by decide) ?_
  refine lv_iadd hx hb dL_law_734 ?_
  refine va_sld hx hb hX hbl hbA h.2.2 (i := y + 4) h4 dL_law_735 ?_
  refine lv_topi (fun x8 ex8 => ?_)
  obtain ⟨-, -, -, pr, pq, sp, Lp, Lq, Ls, k4, k5, k6, hP, hMI⟩ := id hw
  obtain ⟨st, kst, hst9⟩ := z_rf (j := 9) (n := 13) h.2.1 hmo (by decide) rfl
  obtain ⟨ltG, wkG, YaG, YbG, ⟨kG1, kG2⟩, ⟨mG1, mG2⟩, dG1, dG2⟩ := id hG.1
  obtain ⟨ta, kta, hta⟩ := z_rf (j := 30) (n := 168) h.2.1 hmo (by decide) rfl
  have hIp2 := h.2.1
  have erR : prR = pr := Value.ref.inj ((hf1.f hmo 4 ⟨by decide, by decide⟩ hVR.1.2.2).symm.trans k4)
  subst prR
  have kisR := hf1.f hmo 7 ⟨by decide, by decide⟩ hVR.2.2.2.1.2
  have bisR : zB 0 1 izR := z_bd h hmo (by decide) rfl kisR
  obtain ⟨nfR, knfR, bnfR⟩ := z_learn (j := 0) (lo := 0) (hi := 10) h hP.1.2.1 (by decide) rfl
  have hbR1 : izR.toInt ≠ 0 → _ := fun h9 => (⟨(hbR h9).1.fr hf1 hP.1.2.1 ⟨(by unfold zXM; decide +kernel), (by decide +kernel)⟩, (hbR h9).2⟩ : _ ∧ _ ∧ _)
  refine zk_Vi (As := [.int x5, .int x6, .int x7, .int x8]) (rest := [.int r1]) (bytes := cX14_unlike) (maxL := 12) (ret := (some .int)) Z h (zx_X14_unlike l D k Γ L F1 H.size mo x5 x6 x7 x8 st pr wkG izR nfR dR TR VR YbG ta hmo kst hst9 k4 hP.1.2.1 kG2 mG2.2.1 hMI kisR bisR knfR bnfR hbR1 mG2 kta hta) (cwV 4 hg zv_RLl_89 rfl rfl rfl (by decide +kernel) ⟨(Nat.le_of_ble_eq_true rfl), (Nat.le_of_ble_eq_true rfl)⟩) hmo (by decide) rfl rfl hl.1 rfl (Nat.le_of_ble_eq_true rfl) dL_law_736 hcs (fun r2 F2 H locs w h hf2 => ?_)
  have hw := hw.fr hf2 (by unfold zMok; decide +kernel)
  have hfe := hfe.fr hf2 hth hmo (by decide)
  have hJ := hJ.fr hf2 hth hmo (by unfold zJok zJo4; decide +kernel)
  have hD := hD.fr hf2 hth hmo (by unfold zDok; exact ⟨by decide, by unfold zDo1; decide +kernel, by unfold zDo2; decide +kernel, by unfold zDo0; decide, by unfold zDo3; decide⟩) (by unfold zDck; decide)
  have hK := hK.fr hf2 hth hmo (by decide)
  have hE := hE.fr hf2 hth hmo (by unfold zEok; exact ⟨by unfold zEo1; decide, by unfold zEo2; decide, by unfold zEo3; decide +kernel, by unfold zNpM; decide⟩)
  have e11 : x5 = x1 := ex5.trans ex1.symm
  have e12 : x6 = x2 := ex6.trans ex2.symm
  have e13 : x7 = x3 := ex7.trans ex3.symm
  have e14 : x8 = x4 := ex8.trans ex4.symm
  have wR2 := w
  rw [e11, e12, e13, e14] at wR2
  have er := z_unl wR1.1 wR2.1 hdR (fun h9 => (hbR1 h9).1.fc knfR)
  have hG := hG.upr hIp2 hf2 hth hmo kG1 mG1 (mG1.st dG1 wR2.2.1) ⟨by decide, by unfold zKoF; decide +kernel, by unfold zKoV; decide +kernel⟩
  have hR := hR.fr hf2 hth hmo ⟨(by unfold zRom; decide +kernel), (by decide +kernel), ⟨⟨(by unfold zMC; decide +kernel), (by unfold zMK; decide +kernel)⟩, (by decide +kernel)⟩, ⟨(by unfold zXM; decide +kernel), (by decide +kernel)⟩⟩
  refine lv_icmp_eq (tgt := 970) hx hb dL_law_739 (by decide) (fun _ => ?_) (fun h9 => absurd er h9)
  refine W.widen (k := cells + 1) (n := slots + 6) (Nat.le_add_right _ _) (Nat.le_add_right _ _) ?_
  exact kk F2 H locs ls fe h hw hfe hJ hK hD hE hR hG hl

set_option maxHeartbeats 4000000 in
set_option maxRecDepth 100000 in
theorem law_case_15 (hst : l.stackTraces = false) (Z : zC p m c cL_law 7 s #[Value.ref b] zGL RL D k L) (hX : va_X b Ln xs s s.heap) (hbl : b < s.heap.size) (hbA : ¬ zA L s.heap.size b) (h : zH D k Γ L s F H locs) (hw : zIw Γ F th mo o) (hfe : zFe F th mo fe) (hJ : zJw Γ F th mo fe) (hK : zKw F th mo) (hD : zDw Γ F th mo) (hE : zEw Γ F th mo) (hR : zRw Γ F th mo) (hG : zKl Γ F th mo) (hl : lv_has ls 7 [(4, .int y), (3, .ref o), (2, .ref mo), (1, .ref th), (0, .ref b)]) (h1 : vp_in (y + 1) Ln) (h2 : vp_in (y + 2) Ln) (h3 : vp_in (y + 3) Ln) (h4 : vp_in (y + 4) Ln) (h5 : vp_in (y + 5) Ln) (hrm : cells + 1 ≤ room_1.cells ∧ slots + 6 ≤ room_1.slots) (kk : ∀ (F : Nat → va_E) (H : Heap) (locs : List Loc) (ls : Array Slot) (fe : Int32), zH D k Γ L s F H locs → zIw Γ F th mo o → zFe F th mo fe → zJw Γ F th mo fe → zKw F th mo → zDw Γ F th mo → zEw Γ F th mo → zRw Γ F th mo → zKl Γ F th mo → lv_has ls 7 [(4, .int y), (3, .ref o), (2, .ref mo), (1, .ref th), (0, .ref b)] → W p l e room_1 s m #[Value.ref b] below meth c H locs (cells + 1) (slots + 6) Q (F0 m 970 ls [])) : W p l e room_1 s m #[Value.ref b] below meth c H locs cells slots Q (F0 m 744 ls []) := by
  obtain ⟨hth, hmo, ho, -⟩ := id hw
  have hx := Z.1.1
  have hb := Z.1.2.1
  have hg := Z.1.2.2.2.2
  have hcs : cells ≤ room_1.cells ∧ slots ≤ room_1.slots := ⟨Nat.le_trans (Nat.le_add_right _ _) hrm.1, Nat.le_trans (Nat.le_add_right _ _) hrm.2⟩
  refine lv_aload_n hx hb dL_law_744 rfl (lv_at hl 3 rfl) ?_
  have hIp1 := h.2.1
  obtain ⟨pn, sn, tc, tp, fa, fb, la, lb, Ln9, Ls9, j2, j3, hF2, ⟨hPa, hPb⟩, ⟨hLa, hLb⟩, ⟨k0, htc⟩, ⟨k10, htp⟩, heq⟩ := id hJ
  have hpn := hF2.1.2.1
  have hsn := hF2.2.1.2.1
  obtain ⟨pn9, to, pr9, fa9, la9, fc, lc, sz_, is_, hDx, hDc⟩ := id hD
  obtain ⟨cv, ch, kn, q1, q2, q3, q4, q5, q6, q7, q8⟩ := id hDc
  have bkn : zB 0 1 kn := z_bd h q4 (by decide) rfl q5
  have en9 : pn9 = pn := Value.ref.inj (hDx.1.1.symm.trans j2)
  subst pn9
  have hto := hDx.2.1.2.1
  have kto := hDx.1.2.1
  have bfc : zB 0 10 fc := z_bd h hpn (by decide) rfl hDx.2.2.1.1
  have blc : zB 0 60 lc := z_bd h hpn (by decide) rfl hDx.2.2.1.2.1
  have bsz : zB 0 12 sz_ := z_bd h hto (by decide) rfl hDx.2.2.2.1
  refine zk_Vi (As := []) (rest := []) (bytes := cX10_order) (maxL := 1) (ret := (some .int)) Z h (ze_X10_order l D k Γ L F H.size th pn ch fc fa9 cv kn hth j2 hpn q3 q4 hDx.2.2.1.1 bfc hDx.2.1.2.2.2.1 q1 q2 q5 bkn q6) (cwV 0 hg zv_RLl_90 rfl rfl rfl (by decide +kernel) ⟨(Nat.le_of_ble_eq_true rfl), (Nat.le_of_ble_eq_true rfl)⟩) hth (by decide) rfl rfl hl.1 rfl (Nat.le_of_ble_eq_true rfl) dL_law_745 hcs (fun r1 F1 H locs w h hf1 => ?_)
  have hw := hw.fr hf1 (by unfold zMok; decide +kernel)
  have hfe := hfe.fr hf1 hth hmo (by decide)
  have hJ := hJ.fr hf1 hth hmo (by unfold zJok zJo4; decide +kernel)
  have hK := hK.fr hf1 hth hmo (by decide)
  have hE := hE.fr hf1 hth hmo (by unfold zEok; exact ⟨by unfold zEo1; decide, by unfold zEo2; decide, by unfold zEo3; decide +kernel, by unfold zNpM; decide⟩)
  have wo1 := w.2.1
  have hDx1 := hDx.fr hf1 hth hmo (by unfold zDok; exact ⟨by decide, by unfold zDo1; decide +kernel, by unfold zDo2; decide +kernel, by unfold zDo0; decide, by unfold zDo3; decide⟩) (by decide)
  have hDc1 := zDc.ask q1 q2 q3 q4 q7 q8 w.1 hf1 hth hDx.2.1.2.2.2.1 hDx.2.2.1.2.2.2 (by decide)
  have hD : zDw Γ F1 th mo := ⟨_, _, _, _, _, _, _, _, _, hDx1, hDc1⟩
  have hG := hG.fr hIp1 hf1 hth hmo ⟨⟨by decide, by decide⟩, (by unfold zKoF; decide +kernel), (by unfold zKoV; decide +kernel), (by unfold zKoT; decide +kernel)⟩
  have hR := hR.fr hf1 hth hmo ⟨(by unfold zRom; decide +kernel), (by decide +kernel), ⟨⟨(by unfold zMC; decide +kernel), (by unfold zMK; decide +kernel)⟩, (by decide +kernel)⟩, ⟨(by unfold zXM; decide +kernel), (by decide +kernel)⟩⟩
  refine lv_pop hx hb dL_law_748 rfl ?_
  refine lv_aload_n hx hb dL_law_749 rfl (lv_at hl 2 rfl) ?_
  obtain ⟨-, -, -, pr, pq, sp, Lp, Lq, Ls, k4, k5, k6, hP, hMI⟩ := id hw
  obtain ⟨lb, klb, hlb⟩ := z_rf (j := 31) (n := 153) h.2.1 hmo (by decide) rfl
  have hIp2 := h.2.1
  have er9 : pr9 = pr := Value.ref.inj ((hf1.f hmo 4 ⟨by decide, by decide⟩ hDx.1.2.2).symm.trans k4)
  subst pr9
  have hpr9 := hDx.2.1.2.2.1
  have k7 := hf1.f hmo 7 ⟨by decide, by decide⟩ hDx.2.2.2.2.2.1
  have k32 := hf1.f hmo 32 ⟨by decide, by decide⟩ hDx.2.2.2.2.1
  have bis : zB 0 1 is_ := z_bd h hmo (by decide) rfl k7
  obtain ⟨nf, knf, bnf⟩ := z_learn (j := 0) (lo := 0) (hi := 10) h hpr9 (by decide) rfl
  obtain ⟨nl, knl, bnl⟩ := z_learn (j := 1) (lo := 0) (hi := 60) h hpr9 (by decide) rfl
  have d7 : (is_.toInt = 0 ∧ fc.toInt = 0 ∧ lc.toInt = 0) ∨ (is_.toInt ≠ 0 ∧ nf = fc ∧ nl = lc) := hDx.2.2.2.2.2.2.imp id (fun h9 => ⟨h9.1, z_vi knf (hf1.f hpr9 0 ⟨by decide, by decide⟩ h9.2.1), z_vi knl (hf1.f hpr9 1 ⟨by decide, by decide⟩ h9.2.2.1)⟩)
  have d8 : (is_.toInt = 0 ∧ fc.toInt = 0) ∨ (is_.toInt ≠ 0 ∧ nf = fc ∧ 0 < fc.toInt ∧ ∀ f : Nat, (f : Int) < fc.toInt → zar F1 pr 9 f = cv f) := hDx1.2.2.2.2.2.2.imp (fun h9 => ⟨h9.1, h9.2.1⟩) (fun h9 => ⟨h9.1, z_vi knf h9.2.1, h9.2.2.2.2.2, h9.2.2.2.2.1.c (q1.fr hf1 hDx.2.1.2.2.2.1 hDx.2.2.1.2.2.2 (by decide))⟩)
  refine zk_Vi (As := []) (rest := []) (bytes := cX14_order) (maxL := 1) (ret := (some .int)) Z h (zc_X14_order l D k Γ L F1 H.size mo pr lb is_ nf hmo k4 hP.1.2.1 klb hlb k7 bis knf bnf (fun h9 => (d8.elim (fun h8 => absurd h8.1 h9) (fun h8 => (h8.2.1 ▸ q2.of h8.2.2.2))))) (cwV 0 hg zv_RLl_93 rfl rfl rfl (by decide +kernel) ⟨(Nat.le_of_ble_eq_true rfl), (Nat.le_of_ble_eq_true rfl)⟩) hmo (by decide) rfl rfl hl.1 rfl (Nat.le_of_ble_eq_true rfl) dL_law_750 hcs (fun r2 F2 H locs w h hf2 => ?_)
  have hw := hw.fr hf2 (by unfold zMok; decide +kernel)
  have hfe := hfe.fr hf2 hth hmo (by decide)
  have hJ := hJ.fr hf2 hth hmo (by unfold zJok zJo4; decide +kernel)
  have hD := hD.fr hf2 hth hmo (by unfold zDok; exact ⟨by decide, by unfold zDo1; decide +kernel, by unfold zDo2; decide +kernel, by unfold zDo0; decide, by unfold zDo3; decide⟩) (by unfold zDck; decide)
  have hK := hK.fr hf2 hth hmo (by decide)
  have hE := hE.fr hf2 hth hmo (by unfold zEok; exact ⟨by unfold zEo1; decide, by unfold zEo2; decide, by unfold zEo3; decide +kernel, by unfold zNpM; decide⟩)
  have wo2 := w.1
  have er := z_ord bfc q2 wo1 wo2 d8
  have hG := hG.fr hIp2 hf2 hth hmo ⟨⟨by decide, by decide⟩, (by unfold zKoF; decide +kernel), (by unfold zKoV; decide +kernel), (by unfold zKoT; decide +kernel)⟩
  have hR := hR.fr hf2 hth hmo ⟨(by unfold zRom; decide +kernel), (by decide +kernel), ⟨⟨(by unfold zMC; decide +kernel), (by unfold zMK; decide +kernel)⟩, (by decide +kernel)⟩, ⟨(by unfold zXM; decide +kernel), (by decide +kernel)⟩⟩
  refine lv_pop hx hb dL_law_753 rfl ?_
  refine lv_goto (tgt := 970) hx hb dL_law_754 (by decide) ?_
  refine W.widen (k := cells + 1) (n := slots + 6) (Nat.le_add_right _ _) (Nat.le_add_right _ _) ?_
  exact kk F2 H locs ls fe h hw hfe hJ hK hD hE hR hG hl

set_option maxHeartbeats 4000000 in
set_option maxRecDepth 100000 in
theorem law_case_16 (hst : l.stackTraces = false) (Z : zC p m c cL_law 7 s #[Value.ref b] zGL RL D k L) (hX : va_X b Ln xs s s.heap) (hbl : b < s.heap.size) (hbA : ¬ zA L s.heap.size b) (h : zH D k Γ L s F H locs) (hw : zIw Γ F th mo o) (hfe : zFe F th mo fe) (hJ : zJw Γ F th mo fe) (hK : zKw F th mo) (hD : zDw Γ F th mo) (hE : zEw Γ F th mo) (hR : zRw Γ F th mo) (hG : zKl Γ F th mo) (hl : lv_has ls 7 [(4, .int y), (3, .ref o), (2, .ref mo), (1, .ref th), (0, .ref b)]) (h1 : vp_in (y + 1) Ln) (h2 : vp_in (y + 2) Ln) (h3 : vp_in (y + 3) Ln) (h4 : vp_in (y + 4) Ln) (h5 : vp_in (y + 5) Ln) (hrm : cells + 1 ≤ room_1.cells ∧ slots + 6 ≤ room_1.slots) (kk : ∀ (F : Nat → va_E) (H : Heap) (locs : List Loc) (ls : Array Slot) (fe : Int32), zH D k Γ L s F H locs → zIw Γ F th mo o → zFe F th mo fe → zJw Γ F th mo fe → zKw F th mo → zDw Γ F th mo → zEw Γ F th mo → zRw Γ F th mo → zKl Γ F th mo → lv_has ls 7 [(4, .int y), (3, .ref o), (2, .ref mo), (1, .ref th), (0, .ref b)] → W p l e room_1 s m #[Value.ref b] below meth c H locs (cells + 1) (slots + 6) Q (F0 m 970 ls [])) : W p l e room_1 s m #[Value.ref b] below meth c H locs cells slots Q (F0 m 757 ls []) := by
  obtain ⟨hth, hmo, ho, -⟩ := id hw
  have hx := Z.1.1
  have hb := Z.1.2.1
  have hg := Z.1.2.2.2.2
  have hcs : cells ≤ room_1.cells ∧ slots ≤ room_1.slots := ⟨Nat.le_trans (Nat.le_add_right _ _) hrm.1, Nat.le_trans (Nat.le_add_right _ _) hrm.2⟩
  refine lv_aload_n hx hb dL_law_757 rfl (lv_at hl 3 rfl) ?_
  refine lv_aload_n hx hb dL_law_758 rfl (lv_at hl 4 rfl) ?_
  refine lv_iload hx hb dL_law_759 (lv_at hl 0 rfl) ?_
  refine lv_iconst (v := 1) hx hb dL_law_761 (by decide) ?_
  refine lv_iadd hx hb dL_law_762 ?_
  refine va_sld hx hb hX hbl hbA h.2.2 (i := y + 1) h1 dL_law_763 ?_
  refine lv_topi (fun x1 ex1 => ?_)
  have hIp1 := h.2.1
  obtain ⟨pn, sn, tc, tp, fa, fb, la, lb, Ln9, Ls9, j2, j3, hF2, ⟨hPa, hPb⟩, ⟨hLa, hLb⟩, ⟨k0, htc⟩, ⟨k10, htp⟩, heq⟩ := id hJ
  have hpn := hF2.1.2.1
  have hsn := hF2.2.1.2.1
  obtain ⟨pn9, to, pr9, fa9, la9, fc, lc, sz_, is_, hDx, hDc⟩ := id hD
  obtain ⟨cv, ch, kn, q1, q2, q3, q4, q5, q6, q7, q8⟩ := id hDc
  have bkn : zB 0 1 kn := z_bd h q4 (by decide) rfl q5
  have en9 : pn9 = pn := Value.ref.inj (hDx.1.1.symm.trans j2)
  subst pn9
  have hto := hDx.2.1.2.1
  have kto := hDx.1.2.1
  have bfc : zB 0 10 fc := z_bd h hpn (by decide) rfl hDx.2.2.1.1
  have blc : zB 0 60 lc := z_bd h hpn (by decide) rfl hDx.2.2.1.2.1
  have bsz : zB 0 12 sz_ := z_bd h hto (by decide) rfl hDx.2.2.2.1
  refine zk_Vi (As := [.int x1]) (rest := []) (bytes := cX10_chapter) (maxL := 2) (ret := (some .int)) Z h (ze_X10_chapter l D k Γ L F H.size th x1 pn ch fc fa9 cv kn hth j2 hpn q3 q4 hDx.2.2.1.1 bfc hDx.2.1.2.2.2.1 q1 q2 q5 bkn q6) (cwV 1 hg zv_RLl_94 rfl rfl rfl (by decide +kernel) ⟨(Nat.le_of_ble_eq_true rfl), (Nat.le_of_ble_eq_true rfl)⟩) hth (by decide) rfl rfl hl.1 rfl (Nat.le_of_ble_eq_true rfl) dL_law_764 hcs (fun r1 F1 H locs w h hf1 => ?_)
  have hw := hw.fr hf1 (by unfold zMok; decide +kernel)
  have hfe := hfe.fr hf1 hth hmo (by decide)
  have hJ := hJ.fr hf1 hth hmo (by unfold zJok zJo4; decide +kernel)
  have hK := hK.fr hf1 hth hmo (by decide)
  have hE := hE.fr hf1 hth hmo (by unfold zEok; exact ⟨by unfold zEo1; decide, by unfold zEo2; decide, by unfold zEo3; decide +kernel, by unfold zNpM; decide⟩)
  have wo1 := w.2.1
  have hDx1 := hDx.fr hf1 hth hmo (by unfold zDok; exact ⟨by decide, by unfold zDo1; decide +kernel, by unfold zDo2; decide +kernel, by unfold zDo0; decide, by unfold zDo3; decide⟩) (by decide)
  have hDc1 := zDc.ask q1 q2 q3 q4 q7 q8 w.1 hf1 hth hDx.2.1.2.2.2.1 hDx.2.2.1.2.2.2 (by decide)
  have hD : zDw Γ F1 th mo := ⟨_, _, _, _, _, _, _, _, _, hDx1, hDc1⟩
  have hG := hG.fr hIp1 hf1 hth hmo ⟨⟨by decide, by decide⟩, (by unfold zKoF; decide +kernel), (by unfold zKoV; decide +kernel), (by unfold zKoT; decide +kernel)⟩
  have hR := hR.fr hf1 hth hmo ⟨(by unfold zRom; decide +kernel), (by decide +kernel), ⟨⟨(by unfold zMC; decide +kernel), (by unfold zMK; decide +kernel)⟩, (by decide +kernel)⟩, ⟨(by unfold zXM; decide +kernel), (by decide +kernel)⟩⟩
  refine lv_pop hx hb dL_law_767 rfl ?_
  refine lv_aload_n hx hb dL_law_768 rfl (lv_at hl 2 rfl) ?_
  refine lv_aload_n hx hb dL_law_769 rfl (lv_at hl 4 rfl) ?_
  refine lv_iload hx hb dL_law_770 (lv_at hl 0 rfl) ?_
  refine lv_iconst (v := 1) hx hb dL_law_772 (by decide) ?_
  refine lv_iadd hx hb dL_law_773 ?_
  refine va_sld hx hb hX hbl hbA h.2.2 (i := y + 1) h1 dL_law_774 ?_
  refine lv_topi (fun x2 ex2 => ?_)
  obtain ⟨-, -, -, pr, pq, sp, Lp, Lq, Ls, k4, k5, k6, hP, hMI⟩ := id hw
  obtain ⟨lb, klb, hlb⟩ := z_rf (j := 31) (n := 153) h.2.1 hmo (by decide) rfl
  have hIp2 := h.2.1
  have er9 : pr9 = pr := Value.ref.inj ((hf1.f hmo 4 ⟨by decide, by decide⟩ hDx.1.2.2).symm.trans k4)
  subst pr9
  have hpr9 := hDx.2.1.2.2.1
  have k7 := hf1.f hmo 7 ⟨by decide, by decide⟩ hDx.2.2.2.2.2.1
  have k32 := hf1.f hmo 32 ⟨by decide, by decide⟩ hDx.2.2.2.2.1
  have bis : zB 0 1 is_ := z_bd h hmo (by decide) rfl k7
  obtain ⟨nf, knf, bnf⟩ := z_learn (j := 0) (lo := 0) (hi := 10) h hpr9 (by decide) rfl
  obtain ⟨nl, knl, bnl⟩ := z_learn (j := 1) (lo := 0) (hi := 60) h hpr9 (by decide) rfl
  have d7 : (is_.toInt = 0 ∧ fc.toInt = 0 ∧ lc.toInt = 0) ∨ (is_.toInt ≠ 0 ∧ nf = fc ∧ nl = lc) := hDx.2.2.2.2.2.2.imp id (fun h9 => ⟨h9.1, z_vi knf (hf1.f hpr9 0 ⟨by decide, by decide⟩ h9.2.1), z_vi knl (hf1.f hpr9 1 ⟨by decide, by decide⟩ h9.2.2.1)⟩)
  have d8 : (is_.toInt = 0 ∧ fc.toInt = 0) ∨ (is_.toInt ≠ 0 ∧ nf = fc ∧ 0 < fc.toInt ∧ ∀ f : Nat, (f : Int) < fc.toInt → zar F1 pr 9 f = cv f) := hDx1.2.2.2.2.2.2.imp (fun h9 => ⟨h9.1, h9.2.1⟩) (fun h9 => ⟨h9.1, z_vi knf h9.2.1, h9.2.2.2.2.2, h9.2.2.2.2.1.c (q1.fr hf1 hDx.2.1.2.2.2.1 hDx.2.2.1.2.2.2 (by decide))⟩)
  refine zk_Vi (As := [.int x2]) (rest := []) (bytes := cX14_chapter) (maxL := 5) (ret := (some .int)) Z h (zc_X14_chapter l D k Γ L F1 H.size mo x2 pr lb is_ nf hmo k4 hP.1.2.1 klb hlb k7 bis knf bnf (fun h9 => (d8.elim (fun h8 => absurd h8.1 h9) (fun h8 => (h8.2.1 ▸ q2.of h8.2.2.2))))) (cwV 1 hg zv_RLl_97 rfl rfl rfl (by decide +kernel) ⟨(Nat.le_of_ble_eq_true rfl), (Nat.le_of_ble_eq_true rfl)⟩) hmo (by decide) rfl rfl hl.1 rfl (Nat.le_of_ble_eq_true rfl) dL_law_775 hcs (fun r2 F2 H locs w h hf2 => ?_)
  have hw := hw.fr hf2 (by unfold zMok; decide +kernel)
  have hfe := hfe.fr hf2 hth hmo (by decide)
  have hJ := hJ.fr hf2 hth hmo (by unfold zJok zJo4; decide +kernel)
  have hD := hD.fr hf2 hth hmo (by unfold zDok; exact ⟨by decide, by unfold zDo1; decide +kernel, by unfold zDo2; decide +kernel, by unfold zDo0; decide, by unfold zDo3; decide⟩) (by unfold zDck; decide)
  have hK := hK.fr hf2 hth hmo (by decide)
  have hE := hE.fr hf2 hth hmo (by unfold zEok; exact ⟨by unfold zEo1; decide, by unfold zEo2; decide, by unfold zEo3; decide +kernel, by unfold zNpM; decide⟩)
  have e12 : x2 = x1 := ex2.trans ex1.symm
  have wo2 := w.1
  rw [e12] at wo2
  have er := z_chp bfc q2 wo1 wo2 d8
  have hG := hG.fr hIp2 hf2 hth hmo ⟨⟨by decide, by decide⟩, (by unfold zKoF; decide +kernel), (by unfold zKoV; decide +kernel), (by unfold zKoT; decide +kernel)⟩
  have hR := hR.fr hf2 hth hmo ⟨(by unfold zRom; decide +kernel), (by decide +kernel), ⟨⟨(by unfold zMC; decide +kernel), (by unfold zMK; decide +kernel)⟩, (by decide +kernel)⟩, ⟨(by unfold zXM; decide +kernel), (by decide +kernel)⟩⟩
  refine lv_pop hx hb dL_law_778 rfl ?_
  refine lv_goto (tgt := 970) hx hb dL_law_779 (by decide) ?_
  refine W.widen (k := cells + 1) (n := slots + 6) (Nat.le_add_right _ _) (Nat.le_add_right _ _) ?_
  exact kk F2 H locs ls fe h hw hfe hJ hK hD hE hR hG hl

set_option maxHeartbeats 4000000 in
set_option maxRecDepth 100000 in
theorem law_case_17 (hst : l.stackTraces = false) (Z : zC p m c cL_law 7 s #[Value.ref b] zGL RL D k L) (hX : va_X b Ln xs s s.heap) (hbl : b < s.heap.size) (hbA : ¬ zA L s.heap.size b) (h : zH D k Γ L s F H locs) (hw : zIw Γ F th mo o) (hfe : zFe F th mo fe) (hJ : zJw Γ F th mo fe) (hK : zKw F th mo) (hD : zDw Γ F th mo) (hE : zEw Γ F th mo) (hR : zRw Γ F th mo) (hG : zKl Γ F th mo) (hl : lv_has ls 7 [(4, .int y), (3, .ref o), (2, .ref mo), (1, .ref th), (0, .ref b)]) (h1 : vp_in (y + 1) Ln) (h2 : vp_in (y + 2) Ln) (h3 : vp_in (y + 3) Ln) (h4 : vp_in (y + 4) Ln) (h5 : vp_in (y + 5) Ln) (hrm : cells + 1 ≤ room_1.cells ∧ slots + 6 ≤ room_1.slots) (kk : ∀ (F : Nat → va_E) (H : Heap) (locs : List Loc) (ls : Array Slot) (fe : Int32), zH D k Γ L s F H locs → zIw Γ F th mo o → zFe F th mo fe → zJw Γ F th mo fe → zKw F th mo → zDw Γ F th mo → zEw Γ F th mo → zRw Γ F th mo → zKl Γ F th mo → lv_has ls 7 [(4, .int y), (3, .ref o), (2, .ref mo), (1, .ref th), (0, .ref b)] → W p l e room_1 s m #[Value.ref b] below meth c H locs (cells + 1) (slots + 6) Q (F0 m 970 ls [])) : W p l e room_1 s m #[Value.ref b] below meth c H locs cells slots Q (F0 m 782 ls []) := by
  obtain ⟨hth, hmo, ho, -⟩ := id hw
  have hx := Z.1.1
  have hb := Z.1.2.1
  have hg := Z.1.2.2.2.2
  have hcs : cells ≤ room_1.cells ∧ slots ≤ room_1.slots := ⟨Nat.le_trans (Nat.le_add_right _ _) hrm.1, Nat.le_trans (Nat.le_add_right _ _) hrm.2⟩
  refine lv_aload_n hx hb dL_law_782 rfl (lv_at hl 3 rfl) ?_
  refine lv_aload_n hx hb dL_law_783 rfl (lv_at hl 4 rfl) ?_
  refine lv_iload hx hb dL_law_784 (lv_at hl 0 rfl) ?_
  refine lv_iconst (v := 1) hx hb dL_law_786 (by decide) ?_
  refine lv_iadd hx hb dL_law_787 ?_
  refine va_sld hx hb hX hbl hbA h.2.2 (i := y + 1) h1 dL_law_788 ?_
  refine lv_topi (fun x1 ex1 => ?_)
  refine lv_aload_n hx hb dL_law_789 rfl (lv_at hl 4 rfl) ?_
  refine lv_iload hx hb dL_law_790 (lv_at hl 0 rfl) ?_
  refine lv_iconst (v := 2) hx hb dL_law_792 (by decide) ?_
  refine lv_iadd hx hb dL_law_793 ?_
  refine va_sld hx hb hX hbl hbA h.2.2 (i := y + 2) h2 dL_law_794 ?_
  refine lv_topi (fun x2 ex2 => ?_)
  refine lv_aload_n hx hb dL_law_795 rfl (lv_at hl 4 rfl) ?_
  refine lv_iload hx hb dL_law_796 (lv_at hl 0 rfl) ?_
  refine lv_iconst (v := 3) hx hb dL_law_798 (by decide) ?_
  refine lv_iadd hx hb dL_law_799 ?_
  refine va_sld hx hb hX hbl hbA h.2.2 (i := y + 3) h3 dL_law_800 ?_
  refine lv_topi (fun x3 ex3 => ?_)
  refine lv_aload_n hx hb dL_law_801 rfl (lv_at hl 4 rfl) ?_
  refine lv_iload hx hb dL_law_802 (lv_at hl 0 rfl) ?_
  refine lv_iconst (v := 4) hx hb dL_law_804 (by decide) ?_
  refine lv_iadd hx hb dL_law_805 ?_
  refine va_sld hx hb hX hbl hbA h.2.2 (i := y + 4) h4 dL_law_806 ?_
  refine lv_topi (fun x4 ex4 => ?_)
  have hIp1 := h.2.1
  obtain ⟨pn, sn, tc, tp, fa, fb, la, lb, Ln9, Ls9, j2, j3, hF2, ⟨hPa, hPb⟩, ⟨hLa, hLb⟩, ⟨k0, htc⟩, ⟨k10, htp⟩, heq⟩ := id hJ
  have hpn := hF2.1.2.1
  have hsn := hF2.2.1.2.1
  obtain ⟨h3R, pnR, snR, prR, faR, fbR, laR, fcR, izR, hVR⟩ := id hR
  have enR : pnR = pn := Value.ref.inj (hVR.1.1.symm.trans j2)
  subst pnR
  have esR : snR = sn := Value.ref.inj (hVR.1.2.1.symm.trans j3)
  subst snR
  obtain ⟨lmR, tmR, rmR, XaR, XbR, XcR, ⟨kM1, kM2, kM3⟩, ⟨mM1, mM2, mM3⟩, ⟨dAB, dAC, dBC⟩⟩ := id hR.1
  have bfR : zB 0 10 fcR := z_bd h hpn (by decide) rfl hVR.2.2.2.1.1
  obtain ⟨nxR1, knxR1, -⟩ := z_learn (j := 14) h mM1.2.1 (by decide) rfl
  obtain ⟨nxR2, knxR2, -⟩ := z_learn (j := 14) h mM2.2.1 (by decide) rfl
  obtain ⟨nxR3, knxR3, -⟩ := z_learn (j := 14) h mM3.2.1 (by decide) rfl
  obtain ⟨coR, TR, VR, dR, hqR, hbR, hdR⟩ := hVR.rq h
  obtain ⟨pn9, to, pr9, fa9, la9, fc, lc, sz_, is_, hDx, hDc⟩ := id hD
  obtain ⟨cv, ch, kn, q1, q2, q3, q4, q5, q6, q7, q8⟩ := id hDc
  have bkn : zB 0 1 kn := z_bd h q4 (by decide) rfl q5
  have en9 : pn9 = pn := Value.ref.inj (hDx.1.1.symm.trans j2)
  subst pn9
  have hto := hDx.2.1.2.1
  have kto := hDx.1.2.1
  have bfc : zB 0 10 fc := z_bd h hpn (by decide) rfl hDx.2.2.1.1
  have blc : zB 0 60 lc := z_bd h hpn (by decide) rfl hDx.2.2.1.2.1
  have bsz : zB 0 12 sz_ := z_bd h hto (by decide) rfl hDx.2.2.2.1
  have efR : fcR = fc := z_vi hVR.2.2.2.1.1 hDx.2.2.1.1
  refine zk_Vi (As := [.int x1, .int x2, .int x3, .int x4]) (rest := []) (bytes := cX10_tell) (maxL := 5) (ret := (some .int)) Z h (zw_X10_tell l D k Γ L F H.size th x1 x2 x3 x4 pn fc faR coR TR VR dR to sz_ rmR nxR3 XcR hth j2 hpn hDx.2.2.1.1 bfc (efR ▸ hqR) kto hto hDx.2.2.2.1 bsz kM3 mM3.2.1 knxR3 mM3) (cwV 4 hg zv_RLl_98 rfl rfl rfl (by decide +kernel) ⟨(Nat.le_of_ble_eq_true rfl), (Nat.le_of_ble_eq_true rfl)⟩) hth (by decide) rfl rfl hl.1 rfl (Nat.le_of_ble_eq_true rfl) dL_law_807 hcs (fun r1 F1 H locs w h hf1 => ?_)
  have hw := hw.fr hf1 (by unfold zMok; decide +kernel)
  have hfe := hfe.fr hf1 hth hmo (by decide)
  have hJ := hJ.fr hf1 hth hmo (by unfold zJok zJo4; decide +kernel)
  have hK := hK.fr hf1 hth hmo (by decide)
  have hE := hE.fr hf1 hth hmo (by unfold zEok; exact ⟨by unfold zEo1; decide, by unfold zEo2; decide, by unfold zEo3; decide +kernel, by unfold zNpM; decide⟩)
  obtain ⟨⟨s9, ks9, bs9, cs9⟩, -⟩ := id w
  have wR1 := w
  have hG := hG.upc hIp1 hf1 hth hmo kM1 mM1 (mM1.sq (fun a t e h1 h2 h3 => wR1.2 a t e h1 h2 (dAC a h3))) ⟨by decide, by unfold zKoF; decide +kernel, by unfold zKoT; decide +kernel⟩
  have hR := hR.fr hf1 hth hmo ⟨(by unfold zRom; decide +kernel), (by decide +kernel), ⟨⟨(by unfold zMC; decide +kernel), (by unfold zMK; decide +kernel)⟩, (by decide +kernel)⟩, ⟨(by unfold zXM; decide +kernel), (by decide +kernel)⟩⟩
  refine lv_pop hx hb dL_law_810 rfl ?_
  refine lv_aload_n hx hb dL_law_811 rfl (lv_at hl 2 rfl) ?_
  refine lv_aload_n hx hb dL_law_812 rfl (lv_at hl 4 rfl) ?_
  refine lv_iload hx hb dL_law_813 (lv_at hl 0 rfl) ?_
  refine lv_iconst (v := 1) hx hb dL_law_815 (by decide) ?_
  refine lv_iadd hx hb dL_law_816 ?_
  refine va_sld hx hb hX hbl hbA h.2.2 (i := y + 1) h1 dL_law_817 ?_
  refine lv_topi (fun x5 ex5 => ?_)
  refine lv_aload_n hx hb dL_law_818 rfl (lv_at hl 4 rfl) ?_
  refine lv_iload hx hb dL_law_819 (lv_at hl 0 rfl) ?_
  refine lv_iconst (v := 2) hx hb dL_law_821 (by decide) ?_
  refine lv_iadd hx hb dL_law_822 ?_
  refine va_sld hx hb hX hbl hbA h.2.2 (i := y + 2) h2 dL_law_823 ?_
  refine lv_topi (fun x6 ex6 => ?_)
  refine lv_aload_n hx hb dL_law_824 rfl (lv_at hl 4 rfl) ?_
  refine lv_iload hx hb dL_law_825 (lv_at hl 0 rfl) ?_
  refine lv_iconst (v := 3) hx hb dL_law_827 (by decide) ?_
  refine lv_iadd hx hb dL_law_828 ?_
  refine va_sld hx hb hX hbl hbA h.2.2 (i := y + 3) h3 dL_law_829 ?_
  refine lv_topi (fun x7 ex7 => ?_)
  refine lv_aload_n hx hb dL_law_830 rfl (lv_at hl 4 rfl) ?_
  refine lv_iload hx hb dL_law_831 (lv_at hl 0 rfl) ?_
  refine lv_iconst (v := 4) hx hb dL_law_833 (by decide) ?_
  refine lv_iadd hx hb dL_law_834 ?_
  refine va_sld hx hb hX hbl hbA h.2.2 (i := y + 4) h4 dL_law_835 ?_
  refine lv_topi (fun x8 ex8 => ?_)
  obtain ⟨-, -, -, pr, pq, sp, Lp, Lq, Ls, k4, k5, k6, hP, hMI⟩ := id hw
  have hIp2 := h.2.1
  have er9 : pr9 = pr := Value.ref.inj ((hf1.f hmo 4 ⟨by decide, by decide⟩ hDx.1.2.2).symm.trans k4)
  subst pr9
  have hpr9 := hDx.2.1.2.2.1
  have k7 := hf1.f hmo 7 ⟨by decide, by decide⟩ hDx.2.2.2.2.2.1
  have k32 := hf1.f hmo 32 ⟨by decide, by decide⟩ hDx.2.2.2.2.1
  have bis : zB 0 1 is_ := z_bd h hmo (by decide) rfl k7
  obtain ⟨nf, knf, bnf⟩ := z_learn (j := 0) (lo := 0) (hi := 10) h hpr9 (by decide) rfl
  obtain ⟨nl, knl, bnl⟩ := z_learn (j := 1) (lo := 0) (hi := 60) h hpr9 (by decide) rfl
  have d7 : (is_.toInt = 0 ∧ fc.toInt = 0 ∧ lc.toInt = 0) ∨ (is_.toInt ≠ 0 ∧ nf = fc ∧ nl = lc) := hDx.2.2.2.2.2.2.imp id (fun h9 => ⟨h9.1, z_vi knf (hf1.f hpr9 0 ⟨by decide, by decide⟩ h9.2.1), z_vi knl (hf1.f hpr9 1 ⟨by decide, by decide⟩ h9.2.2.1)⟩)
  refine zk_Vi (As := [.int x5, .int x6, .int x7, .int x8]) (rest := []) (bytes := cX14_tell) (maxL := 5) (ret := (some .int)) Z h (zc_X14_tell l D k Γ L F1 H.size mo x5 x6 x7 x8 pr is_ nf sz_ hmo k4 hP.1.2.1 hMI k7 bis knf bnf k32 bsz) (cwV 4 hg zv_RLl_101 rfl rfl rfl (by decide +kernel) ⟨(Nat.le_of_ble_eq_true rfl), (Nat.le_of_ble_eq_true rfl)⟩) hmo (by decide) rfl rfl hl.1 rfl (Nat.le_of_ble_eq_true rfl) dL_law_836 hcs (fun r2 F2 H locs w h hf2 => ?_)
  have hw : zIw Γ F2 th mo o := ⟨hth, hmo, ho, pr, pq, sp, Lp, Lq, Ls, hf2.f hmo 4 ⟨by decide, by decide⟩ k4, hf2.f hmo 5 ⟨by decide, by decide⟩ k5, hf2.f hmo 6 ⟨by decide, by decide⟩ k6, hP.fr hf2 (by decide +kernel), w.1⟩
  have hfe := hfe.fr hf2 hth hmo (by decide)
  have hJ := hJ.fr hf2 hth hmo (by unfold zJok zJo4; decide +kernel)
  have hK := hK.fr hf2 hth hmo (by decide)
  have hE := hE.fr hf2 hth hmo (by unfold zEok; exact ⟨by unfold zEo1; decide, by unfold zEo2; decide, by unfold zEo3; decide +kernel, by unfold zNpM; decide⟩)
  obtain ⟨-, ⟨t9, kt9, bt9, ct9⟩, -⟩ := w
  have e12 : x5 = x1 := ex5.trans ex1.symm
  rw [e12] at ct9
  obtain ⟨er, et9⟩ := z_tel cs9 ct9 d7
  rw [et9] at kt9
  have hD : zDw Γ F2 th mo := ⟨_, _, _, _, _, _, _, _, _, hDx.tell (hf1.app hf2) hth hmo (by unfold zDok; exact ⟨by decide, by unfold zDo1; decide +kernel, by unfold zDo2; decide +kernel, by unfold zDo0; decide, by unfold zDo3; decide⟩) (hf2.f hto 4 ⟨by decide, by decide⟩ ks9) kt9, hDc.fr (hf1.app hf2) hth hDx.2.1.2.2.2.1 hDx.2.2.1.2.2.2 (by unfold zDck; decide)⟩
  have hG := hG.fr hIp2 hf2 hth hmo ⟨⟨by decide, by decide⟩, (by unfold zKoF; decide +kernel), (by unfold zKoV; decide +kernel), (by unfold zKoT; decide +kernel)⟩
  have hR := hR.fr hf2 hth hmo ⟨(by unfold zRom; decide +kernel), (by decide +kernel), ⟨⟨(by unfold zMC; decide +kernel), (by unfold zMK; decide +kernel)⟩, (by decide +kernel)⟩, ⟨(by unfold zXM; decide +kernel), (by decide +kernel)⟩⟩
  refine lv_pop hx hb dL_law_839 rfl ?_
  refine lv_goto (tgt := 970) hx hb dL_law_840 (by decide) ?_
  refine W.widen (k := cells + 1) (n := slots + 6) (Nat.le_add_right _ _) (Nat.le_add_right _ _) ?_
  exact kk F2 H locs ls fe h hw hfe hJ hK hD hE hR hG hl

set_option maxHeartbeats 4000000 in
set_option maxRecDepth 100000 in
theorem law_case_18 (hst : l.stackTraces = false) (Z : zC p m c cL_law 7 s #[Value.ref b] zGL RL D k L) (hX : va_X b Ln xs s s.heap) (hbl : b < s.heap.size) (hbA : ¬ zA L s.heap.size b) (h : zH D k Γ L s F H locs) (hw : zIw Γ F th mo o) (hfe : zFe F th mo fe) (hJ : zJw Γ F th mo fe) (hK : zKw F th mo) (hD : zDw Γ F th mo) (hE : zEw Γ F th mo) (hR : zRw Γ F th mo) (hG : zKl Γ F th mo) (hl : lv_has ls 7 [(4, .int y), (3, .ref o), (2, .ref mo), (1, .ref th), (0, .ref b)]) (h1 : vp_in (y + 1) Ln) (h2 : vp_in (y + 2) Ln) (h3 : vp_in (y + 3) Ln) (h4 : vp_in (y + 4) Ln) (h5 : vp_in (y + 5) Ln) (hrm : cells + 1 ≤ room_1.cells ∧ slots + 6 ≤ room_1.slots) (kk : ∀ (F : Nat → va_E) (H : Heap) (locs : List Loc) (ls : Array Slot) (fe : Int32), zH D k Γ L s F H locs → zIw Γ F th mo o → zFe F th mo fe → zJw Γ F th mo fe → zKw F th mo → zDw Γ F th mo → zEw Γ F th mo → zRw Γ F th mo → zKl Γ F th mo → lv_has ls 7 [(4, .int y), (3, .ref o), (2, .ref mo), (1, .ref th), (0, .ref b)] → W p l e room_1 s m #[Value.ref b] below meth c H locs (cells + 1) (slots + 6) Q (F0 m 970 ls [])) : W p l e room_1 s m #[Value.ref b] below meth c H locs cells slots Q (F0 m 843 ls []) := by
  obtain ⟨hth, hmo, ho, -⟩ := id hw
  have hx := Z.1.1
  have hb := Z.1.2.1
  have hg := Z.1.2.2.2.2
  have hcs : cells ≤ room_1.cells ∧ slots ≤ room_1.slots := ⟨Nat.le_trans (Nat.le_add_right _ _) hrm.1, Nat.le_trans (Nat.le_add_right _ _) hrm.2⟩
  refine lv_aload_n hx hb dL_law_843 rfl (lv_at hl 3 rfl) ?_
  have hIp1 := h.2.1
  obtain ⟨pn, sn, tc, tp, fa, fb, la, lb, Ln9, Ls9, j2, j3, hF2, ⟨hPa, hPb⟩, ⟨hLa, hLb⟩, ⟨k0, htc⟩, ⟨k10, htp⟩, heq⟩ := id hJ
  have hpn := hF2.1.2.1
  have hsn := hF2.2.1.2.1
  refine zk_Vi (As := []) (rest := []) (bytes := cX10_shown) (maxL := 1) (ret := (some .int)) Z h (zc_X10_shown l D k Γ L F H.size th hth) (cwV 0 hg zv_RLl_102 rfl rfl rfl (by decide +kernel) ⟨(Nat.le_of_ble_eq_true rfl), (Nat.le_of_ble_eq_true rfl)⟩) hth (by decide) rfl rfl hl.1 rfl (Nat.le_of_ble_eq_true rfl) dL_law_844 hcs (fun r1 F1 H locs w h hf1 => ?_)
  have hw := hw.fr hf1 (by unfold zMok; decide +kernel)
  have hfe := hfe.fr hf1 hth hmo (by decide)
  have hJ := hJ.fr hf1 hth hmo (by unfold zJok zJo4; decide +kernel)
  have hD := hD.fr hf1 hth hmo (by unfold zDok; exact ⟨by decide, by unfold zDo1; decide +kernel, by unfold zDo2; decide +kernel, by unfold zDo0; decide, by unfold zDo3; decide⟩) (by unfold zDck; decide)
  have hK := hK.fr hf1 hth hmo (by decide)
  have hE := hE.fr hf1 hth hmo (by unfold zEok; exact ⟨by unfold zEo1; decide, by unfold zEo2; decide, by unfold zEo3; decide +kernel, by unfold zNpM; decide⟩)
  have hG := hG.fr hIp1 hf1 hth hmo ⟨⟨by decide, by decide⟩, (by unfold zKoF; decide +kernel), (by unfold zKoV; decide +kernel), (by unfold zKoT; decide +kernel)⟩
  have hR := hR.fr hf1 hth hmo ⟨(by unfold zRom; decide +kernel), (by decide +kernel), ⟨⟨(by unfold zMC; decide +kernel), (by unfold zMK; decide +kernel)⟩, (by decide +kernel)⟩, ⟨(by unfold zXM; decide +kernel), (by decide +kernel)⟩⟩
  refine lv_pop hx hb dL_law_847 rfl ?_
  refine lv_aload_n hx hb dL_law_848 rfl (lv_at hl 2 rfl) ?_
  obtain ⟨-, -, -, pr, pq, sp, Lp, Lq, Ls, k4, k5, k6, hP, hMI⟩ := id hw
  obtain ⟨st, kst, hst9⟩ := z_rf (j := 9) (n := 13) h.2.1 hmo (by decide) rfl
  obtain ⟨ltG, wkG, YaG, YbG, ⟨kG1, kG2⟩, ⟨mG1, mG2⟩, dG1, dG2⟩ := id hG.1
  have hIp2 := h.2.1
  refine zk_Vi (As := []) (rest := []) (bytes := cX14_shown) (maxL := 1) (ret := (some .int)) Z h (zy_X14_shown l D k Γ L F1 H.size mo st pr wkG YbG hmo kst hst9 k4 hP.1.2.1 kG2 mG2.2.1 hMI mG2) (cwV 0 hg zv_RLl_105 rfl rfl rfl (by decide +kernel) ⟨(Nat.le_of_ble_eq_true rfl), (Nat.le_of_ble_eq_true rfl)⟩) hmo (by decide) rfl rfl hl.1 rfl (Nat.le_of_ble_eq_true rfl) dL_law_849 hcs (fun r2 F2 H locs w h hf2 => ?_)
  have hw := hw.fr hf2 (by unfold zMok; decide +kernel)
  have hfe := hfe.fr hf2 hth hmo (by decide)
  have hJ := hJ.fr hf2 hth hmo (by unfold zJok zJo4; decide +kernel)
  have hD := hD.fr hf2 hth hmo (by unfold zDok; exact ⟨by decide, by unfold zDo1; decide +kernel, by unfold zDo2; decide +kernel, by unfold zDo0; decide, by unfold zDo3; decide⟩) (by unfold zDck; decide)
  have hK := hK.fr hf2 hth hmo (by decide)
  have hE := hE.fr hf2 hth hmo (by unfold zEok; exact ⟨by unfold zEo1; decide, by unfold zEo2; decide, by unfold zEo3; decide +kernel, by unfold zNpM; decide⟩)
  have hG := hG.upr hIp2 hf2 hth hmo kG1 mG1 (mG1.st dG1 w.1) ⟨by decide, by unfold zKoF; decide +kernel, by unfold zKoV; decide +kernel⟩
  have hR := hR.fr hf2 hth hmo ⟨(by unfold zRom; decide +kernel), (by decide +kernel), ⟨⟨(by unfold zMC; decide +kernel), (by unfold zMK; decide +kernel)⟩, (by decide +kernel)⟩, ⟨(by unfold zXM; decide +kernel), (by decide +kernel)⟩⟩
  refine lv_pop hx hb dL_law_852 rfl ?_
  refine lv_goto (tgt := 970) hx hb dL_law_853 (by decide) ?_
  refine W.widen (k := cells + 1) (n := slots + 6) (Nat.le_add_right _ _) (Nat.le_add_right _ _) ?_
  exact kk F2 H locs ls fe h hw hfe hJ hK hD hE hR hG hl

set_option maxHeartbeats 4000000 in
set_option maxRecDepth 100000 in
theorem law_case_19 (hst : l.stackTraces = false) (Z : zC p m c cL_law 7 s #[Value.ref b] zGL RL D k L) (hX : va_X b Ln xs s s.heap) (hbl : b < s.heap.size) (hbA : ¬ zA L s.heap.size b) (h : zH D k Γ L s F H locs) (hw : zIw Γ F th mo o) (hfe : zFe F th mo fe) (hJ : zJw Γ F th mo fe) (hK : zKw F th mo) (hD : zDw Γ F th mo) (hE : zEw Γ F th mo) (hR : zRw Γ F th mo) (hG : zKl Γ F th mo) (hl : lv_has ls 7 [(4, .int y), (3, .ref o), (2, .ref mo), (1, .ref th), (0, .ref b)]) (h1 : vp_in (y + 1) Ln) (h2 : vp_in (y + 2) Ln) (h3 : vp_in (y + 3) Ln) (h4 : vp_in (y + 4) Ln) (h5 : vp_in (y + 5) Ln) (hrm : cells + 1 ≤ room_1.cells ∧ slots + 6 ≤ room_1.slots) (kk : ∀ (F : Nat → va_E) (H : Heap) (locs : List Loc) (ls : Array Slot) (fe : Int32), zH D k Γ L s F H locs → zIw Γ F th mo o → zFe F th mo fe → zJw Γ F th mo fe → zKw F th mo → zDw Γ F th mo → zEw Γ F th mo → zRw Γ F th mo → zKl Γ F th mo → lv_has ls 7 [(4, .int y), (3, .ref o), (2, .ref mo), (1, .ref th), (0, .ref b)] → W p l e room_1 s m #[Value.ref b] below meth c H locs (cells + 1) (slots + 6) Q (F0 m 970 ls [])) : W p l e room_1 s m #[Value.ref b] below meth c H locs cells slots Q (F0 m 856 ls []) := by
  obtain ⟨hth, hmo, ho, -⟩ := id hw
  have hx := Z.1.1
  have hb := Z.1.2.1
  have hg := Z.1.2.2.2.2
  have hcs : cells ≤ room_1.cells ∧ slots ≤ room_1.slots := ⟨Nat.le_trans (Nat.le_add_right _ _) hrm.1, Nat.le_trans (Nat.le_add_right _ _) hrm.2⟩
  refine lv_aload_n hx hb dL_law_856 rfl (lv_at hl 3 rfl) ?_
  have hIp1 := h.2.1
  obtain ⟨pn, sn, tc, tp, fa, fb, la, lb, Ln9, Ls9, j2, j3, hF2, ⟨hPa, hPb⟩, ⟨hLa, hLb⟩, ⟨k0, htc⟩, ⟨k10, htp⟩, heq⟩ := id hJ
  have hpn := hF2.1.2.1
  have hsn := hF2.2.1.2.1
  refine zk_Vi (As := []) (rest := []) (bytes := cX10_fewest) (maxL := 1) (ret := (some .int)) Z h (zc_X10_fewest l D k Γ L F H.size th hth) (cwV 0 hg zv_RLl_106 rfl rfl rfl (by decide +kernel) ⟨(Nat.le_of_ble_eq_true rfl), (Nat.le_of_ble_eq_true rfl)⟩) hth (by decide) rfl rfl hl.1 rfl (Nat.le_of_ble_eq_true rfl) dL_law_857 hcs (fun r1 F1 H locs w h hf1 => ?_)
  have hw := hw.fr hf1 (by unfold zMok; decide +kernel)
  have hfe := hfe.fr hf1 hth hmo (by decide)
  have hJ := hJ.fr hf1 hth hmo (by unfold zJok zJo4; decide +kernel)
  have hD := hD.fr hf1 hth hmo (by unfold zDok; exact ⟨by decide, by unfold zDo1; decide +kernel, by unfold zDo2; decide +kernel, by unfold zDo0; decide, by unfold zDo3; decide⟩) (by unfold zDck; decide)
  have hK := hK.fr hf1 hth hmo (by decide)
  have hE := hE.fr hf1 hth hmo (by unfold zEok; exact ⟨by unfold zEo1; decide, by unfold zEo2; decide, by unfold zEo3; decide +kernel, by unfold zNpM; decide⟩)
  have hG := hG.fr hIp1 hf1 hth hmo ⟨⟨by decide, by decide⟩, (by unfold zKoF; decide +kernel), (by unfold zKoV; decide +kernel), (by unfold zKoT; decide +kernel)⟩
  have hR := hR.fr hf1 hth hmo ⟨(by unfold zRom; decide +kernel), (by decide +kernel), ⟨⟨(by unfold zMC; decide +kernel), (by unfold zMK; decide +kernel)⟩, (by decide +kernel)⟩, ⟨(by unfold zXM; decide +kernel), (by decide +kernel)⟩⟩
  refine lv_pop hx hb dL_law_860 rfl ?_
  refine lv_aload_n hx hb dL_law_861 rfl (lv_at hl 2 rfl) ?_
  obtain ⟨-, -, -, pr, pq, sp, Lp, Lq, Ls, k4, k5, k6, hP, hMI⟩ := id hw
  obtain ⟨st, kst, hst9⟩ := z_rf (j := 9) (n := 13) h.2.1 hmo (by decide) rfl
  obtain ⟨ltG, wkG, YaG, YbG, ⟨kG1, kG2⟩, ⟨mG1, mG2⟩, dG1, dG2⟩ := id hG.1
  have hIp2 := h.2.1
  refine zk_Vi (As := []) (rest := []) (bytes := cX14_fewest) (maxL := 8) (ret := (some .int)) Z h (zy_X14_fewest l D k Γ L F1 H.size mo st pr wkG YbG hmo kst hst9 k4 hP.1.2.1 kG2 mG2.2.1 hMI mG2) (cwV 0 hg zv_RLl_109 rfl rfl rfl (by decide +kernel) ⟨(Nat.le_of_ble_eq_true rfl), (Nat.le_of_ble_eq_true rfl)⟩) hmo (by decide) rfl rfl hl.1 rfl (Nat.le_of_ble_eq_true rfl) dL_law_862 hcs (fun r2 F2 H locs w h hf2 => ?_)
  have hw := hw.fr hf2 (by unfold zMok; decide +kernel)
  have hfe := hfe.fr hf2 hth hmo (by decide)
  have hJ := hJ.fr hf2 hth hmo (by unfold zJok zJo4; decide +kernel)
  have hD := hD.fr hf2 hth hmo (by unfold zDok; exact ⟨by decide, by unfold zDo1; decide +kernel, by unfold zDo2; decide +kernel, by unfold zDo0; decide, by unfold zDo3; decide⟩) (by unfold zDck; decide)
  have hK := hK.fr hf2 hth hmo (by decide)
  have hE := hE.fr hf2 hth hmo (by unfold zEok; exact ⟨by unfold zEo1; decide, by unfold zEo2; decide, by unfold zEo3; decide +kernel, by unfold zNpM; decide⟩)
  have hG := hG.upr hIp2 hf2 hth hmo kG1 mG1 (mG1.st dG1 w.1) ⟨by decide, by unfold zKoF; decide +kernel, by unfold zKoV; decide +kernel⟩
  have hR := hR.fr hf2 hth hmo ⟨(by unfold zRom; decide +kernel), (by decide +kernel), ⟨⟨(by unfold zMC; decide +kernel), (by unfold zMK; decide +kernel)⟩, (by decide +kernel)⟩, ⟨(by unfold zXM; decide +kernel), (by decide +kernel)⟩⟩
  refine lv_pop hx hb dL_law_865 rfl ?_
  refine lv_goto (tgt := 970) hx hb dL_law_866 (by decide) ?_
  refine W.widen (k := cells + 1) (n := slots + 6) (Nat.le_add_right _ _) (Nat.le_add_right _ _) ?_
  exact kk F2 H locs ls fe h hw hfe hJ hK hD hE hR hG hl

set_option maxHeartbeats 4000000 in
set_option maxRecDepth 100000 in
theorem law_case_20 (hst : l.stackTraces = false) (Z : zC p m c cL_law 7 s #[Value.ref b] zGL RL D k L) (hX : va_X b Ln xs s s.heap) (hbl : b < s.heap.size) (hbA : ¬ zA L s.heap.size b) (h : zH D k Γ L s F H locs) (hw : zIw Γ F th mo o) (hfe : zFe F th mo fe) (hJ : zJw Γ F th mo fe) (hK : zKw F th mo) (hD : zDw Γ F th mo) (hE : zEw Γ F th mo) (hR : zRw Γ F th mo) (hG : zKl Γ F th mo) (hl : lv_has ls 7 [(4, .int y), (3, .ref o), (2, .ref mo), (1, .ref th), (0, .ref b)]) (h1 : vp_in (y + 1) Ln) (h2 : vp_in (y + 2) Ln) (h3 : vp_in (y + 3) Ln) (h4 : vp_in (y + 4) Ln) (h5 : vp_in (y + 5) Ln) (hrm : cells + 1 ≤ room_1.cells ∧ slots + 6 ≤ room_1.slots) (kk : ∀ (F : Nat → va_E) (H : Heap) (locs : List Loc) (ls : Array Slot) (fe : Int32), zH D k Γ L s F H locs → zIw Γ F th mo o → zFe F th mo fe → zJw Γ F th mo fe → zKw F th mo → zDw Γ F th mo → zEw Γ F th mo → zRw Γ F th mo → zKl Γ F th mo → lv_has ls 7 [(4, .int y), (3, .ref o), (2, .ref mo), (1, .ref th), (0, .ref b)] → W p l e room_1 s m #[Value.ref b] below meth c H locs (cells + 1) (slots + 6) Q (F0 m 970 ls [])) : W p l e room_1 s m #[Value.ref b] below meth c H locs cells slots Q (F0 m 869 ls []) := by
  obtain ⟨hth, hmo, ho, -⟩ := id hw
  have hx := Z.1.1
  have hb := Z.1.2.1
  have hg := Z.1.2.2.2.2
  have hcs : cells ≤ room_1.cells ∧ slots ≤ room_1.slots := ⟨Nat.le_trans (Nat.le_add_right _ _) hrm.1, Nat.le_trans (Nat.le_add_right _ _) hrm.2⟩
  refine lv_aload_n hx hb dL_law_869 rfl (lv_at hl 3 rfl) ?_
  refine lv_aload_n hx hb dL_law_870 rfl (lv_at hl 4 rfl) ?_
  refine lv_iload hx hb dL_law_871 (lv_at hl 0 rfl) ?_
  refine lv_iconst (v := 1) hx hb dL_law_873 (by decide) ?_
  refine lv_iadd hx hb dL_law_874 ?_
  refine va_sld hx hb hX hbl hbA h.2.2 (i := y + 1) h1 dL_law_875 ?_
  refine lv_topi (fun x1 ex1 => ?_)
  have hIp1 := h.2.1
  obtain ⟨pn, sn, tc, tp, fa, fb, la, lb, Ln9, Ls9, j2, j3, hF2, ⟨hPa, hPb⟩, ⟨hLa, hLb⟩, ⟨k0, htc⟩, ⟨k10, htp⟩, heq⟩ := id hJ
  have hpn := hF2.1.2.1
  have hsn := hF2.2.1.2.1
  refine zk_Vi (As := [.int x1]) (rest := []) (bytes := cX10_picked) (maxL := 2) (ret := (some .int)) Z h (zc_X10_picked l D k Γ L F H.size th x1 hth) (cwV 1 hg zv_RLl_110 rfl rfl rfl (by decide +kernel) ⟨(Nat.le_of_ble_eq_true rfl), (Nat.le_of_ble_eq_true rfl)⟩) hth (by decide) rfl rfl hl.1 rfl (Nat.le_of_ble_eq_true rfl) dL_law_876 hcs (fun r1 F1 H locs w h hf1 => ?_)
  have hw := hw.fr hf1 (by unfold zMok; decide +kernel)
  have hfe := hfe.fr hf1 hth hmo (by decide)
  have hJ := hJ.fr hf1 hth hmo (by unfold zJok zJo4; decide +kernel)
  have hD := hD.fr hf1 hth hmo (by unfold zDok; exact ⟨by decide, by unfold zDo1; decide +kernel, by unfold zDo2; decide +kernel, by unfold zDo0; decide, by unfold zDo3; decide⟩) (by unfold zDck; decide)
  have hK := hK.fr hf1 hth hmo (by decide)
  have hE := hE.fr hf1 hth hmo (by unfold zEok; exact ⟨by unfold zEo1; decide, by unfold zEo2; decide, by unfold zEo3; decide +kernel, by unfold zNpM; decide⟩)
  have hG := hG.fr hIp1 hf1 hth hmo ⟨⟨by decide, by decide⟩, (by unfold zKoF; decide +kernel), (by unfold zKoV; decide +kernel), (by unfold zKoT; decide +kernel)⟩
  have hR := hR.fr hf1 hth hmo ⟨(by unfold zRom; decide +kernel), (by decide +kernel), ⟨⟨(by unfold zMC; decide +kernel), (by unfold zMK; decide +kernel)⟩, (by decide +kernel)⟩, ⟨(by unfold zXM; decide +kernel), (by decide +kernel)⟩⟩
  refine lv_pop hx hb dL_law_879 rfl ?_
  refine lv_aload_n hx hb dL_law_880 rfl (lv_at hl 2 rfl) ?_
  refine lv_aload_n hx hb dL_law_881 rfl (lv_at hl 4 rfl) ?_
  refine lv_iload hx hb dL_law_882 (lv_at hl 0 rfl) ?_
  refine lv_iconst (v := 1) hx hb dL_law_884 (by decide) ?_
  refine lv_iadd hx hb dL_law_885 ?_
  refine va_sld hx hb hX hbl hbA h.2.2 (i := y + 1) h1 dL_law_886 ?_
  refine lv_topi (fun x2 ex2 => ?_)
  obtain ⟨-, -, -, pr, pq, sp, Lp, Lq, Ls, k4, k5, k6, hP, hMI⟩ := id hw
  have hIp2 := h.2.1
  refine zk_Vi (As := [.int x2]) (rest := []) (bytes := cX14_picked) (maxL := 2) (ret := (some .int)) Z h (zc_X14_picked l D k Γ L F1 H.size mo x2 hmo) (cwV 1 hg zv_RLl_113 rfl rfl rfl (by decide +kernel) ⟨(Nat.le_of_ble_eq_true rfl), (Nat.le_of_ble_eq_true rfl)⟩) hmo (by decide) rfl rfl hl.1 rfl (Nat.le_of_ble_eq_true rfl) dL_law_887 hcs (fun r2 F2 H locs w h hf2 => ?_)
  have hw := hw.fr hf2 (by unfold zMok; decide +kernel)
  have hfe := hfe.fr hf2 hth hmo (by decide)
  have hJ := hJ.fr hf2 hth hmo (by unfold zJok zJo4; decide +kernel)
  have hD := hD.fr hf2 hth hmo (by unfold zDok; exact ⟨by decide, by unfold zDo1; decide +kernel, by unfold zDo2; decide +kernel, by unfold zDo0; decide, by unfold zDo3; decide⟩) (by unfold zDck; decide)
  have hK := hK.fr hf2 hth hmo (by decide)
  have hE := hE.fr hf2 hth hmo (by unfold zEok; exact ⟨by unfold zEo1; decide, by unfold zEo2; decide, by unfold zEo3; decide +kernel, by unfold zNpM; decide⟩)
  have hG := hG.fr hIp2 hf2 hth hmo ⟨⟨by decide, by decide⟩, (by unfold zKoF; decide +kernel), (by unfold zKoV; decide +kernel), (by unfold zKoT; decide +kernel)⟩
  have hR := hR.fr hf2 hth hmo ⟨(by unfold zRom; decide +kernel), (by decide +kernel), ⟨⟨(by unfold zMC; decide +kernel), (by unfold zMK; decide +kernel)⟩, (by decide +kernel)⟩, ⟨(by unfold zXM; decide +kernel), (by decide +kernel)⟩⟩
  refine lv_pop hx hb dL_law_890 rfl ?_
  refine lv_goto (tgt := 970) hx hb dL_law_891 (by decide) ?_
  refine W.widen (k := cells + 1) (n := slots + 6) (Nat.le_add_right _ _) (Nat.le_add_right _ _) ?_
  exact kk F2 H locs ls fe h hw hfe hJ hK hD hE hR hG hl

set_option maxHeartbeats 4000000 in
set_option maxRecDepth 100000 in
theorem law_case_21 (hst : l.stackTraces = false) (Z : zC p m c cL_law 7 s #[Value.ref b] zGL RL D k L) (hX : va_X b Ln xs s s.heap) (hbl : b < s.heap.size) (hbA : ¬ zA L s.heap.size b) (h : zH D k Γ L s F H locs) (hw : zIw Γ F th mo o) (hfe : zFe F th mo fe) (hJ : zJw Γ F th mo fe) (hK : zKw F th mo) (hD : zDw Γ F th mo) (hE : zEw Γ F th mo) (hR : zRw Γ F th mo) (hG : zKl Γ F th mo) (hl : lv_has ls 7 [(4, .int y), (3, .ref o), (2, .ref mo), (1, .ref th), (0, .ref b)]) (h1 : vp_in (y + 1) Ln) (h2 : vp_in (y + 2) Ln) (h3 : vp_in (y + 3) Ln) (h4 : vp_in (y + 4) Ln) (h5 : vp_in (y + 5) Ln) (hrm : cells + 1 ≤ room_1.cells ∧ slots + 6 ≤ room_1.slots) (kk : ∀ (F : Nat → va_E) (H : Heap) (locs : List Loc) (ls : Array Slot) (fe : Int32), zH D k Γ L s F H locs → zIw Γ F th mo o → zFe F th mo fe → zJw Γ F th mo fe → zKw F th mo → zDw Γ F th mo → zEw Γ F th mo → zRw Γ F th mo → zKl Γ F th mo → lv_has ls 7 [(4, .int y), (3, .ref o), (2, .ref mo), (1, .ref th), (0, .ref b)] → W p l e room_1 s m #[Value.ref b] below meth c H locs (cells + 1) (slots + 6) Q (F0 m 970 ls [])) : W p l e room_1 s m #[Value.ref b] below meth c H locs cells slots Q (F0 m 894 ls []) := by
  obtain ⟨hth, hmo, ho, -⟩ := id hw
  have hx := Z.1.1
  have hb := Z.1.2.1
  have hg := Z.1.2.2.2.2
  have hcs : cells ≤ room_1.cells ∧ slots ≤ room_1.slots := ⟨Nat.le_trans (Nat.le_add_right _ _) hrm.1, Nat.le_trans (Nat.le_add_right _ _) hrm.2⟩
  refine lv_aload_n hx hb dL_law_894 rfl (lv_at hl 3 rfl) ?_
  refine lv_aload_n hx hb dL_law_895 rfl (lv_at hl 4 rfl) ?_
  refine lv_iload hx hb dL_law_896 (lv_at hl 0 rfl) ?_
  refine lv_iconst (v := 1) hx hb dL_law_898 (by decide) ?_
  refine lv_iadd hx hb dL_law_899 ?_
  refine va_sld hx hb hX hbl hbA h.2.2 (i := y + 1) h1 dL_law_900 ?_
  refine lv_topi (fun x1 ex1 => ?_)
  have hIp1 := h.2.1
  obtain ⟨pn, sn, tc, tp, fa, fb, la, lb, Ln9, Ls9, j2, j3, hF2, ⟨hPa, hPb⟩, ⟨hLa, hLb⟩, ⟨k0, htc⟩, ⟨k10, htp⟩, heq⟩ := id hJ
  have hpn := hF2.1.2.1
  have hsn := hF2.2.1.2.1
  refine zk_Vi (As := [.int x1]) (rest := []) (bytes := cX10_anew) (maxL := 2) (ret := (some .int)) Z h (zc_X10_anew l D k Γ L F H.size th x1 pn hth j2 hpn) (cwV 1 hg zv_RLl_114 rfl rfl rfl (by decide +kernel) ⟨(Nat.le_of_ble_eq_true rfl), (Nat.le_of_ble_eq_true rfl)⟩) hth (by decide) rfl rfl hl.1 rfl (Nat.le_of_ble_eq_true rfl) dL_law_901 hcs (fun r1 F1 H locs w h hf1 => ?_)
  have hw := hw.fr hf1 (by unfold zMok; decide +kernel)
  have hfe := hfe.fr hf1 hth hmo (by decide)
  have hJ := hJ.fr hf1 hth hmo (by unfold zJok zJo4; decide +kernel)
  have hD := hD.fr hf1 hth hmo (by unfold zDok; exact ⟨by decide, by unfold zDo1; decide +kernel, by unfold zDo2; decide +kernel, by unfold zDo0; decide, by unfold zDo3; decide⟩) (by unfold zDck; decide)
  have hK := hK.fr hf1 hth hmo (by decide)
  have hE := hE.fr hf1 hth hmo (by unfold zEok; exact ⟨by unfold zEo1; decide, by unfold zEo2; decide, by unfold zEo3; decide +kernel, by unfold zNpM; decide⟩)
  have hG := hG.fr hIp1 hf1 hth hmo ⟨⟨by decide, by decide⟩, (by unfold zKoF; decide +kernel), (by unfold zKoV; decide +kernel), (by unfold zKoT; decide +kernel)⟩
  have hR := hR.fr hf1 hth hmo ⟨(by unfold zRom; decide +kernel), (by decide +kernel), ⟨⟨(by unfold zMC; decide +kernel), (by unfold zMK; decide +kernel)⟩, (by decide +kernel)⟩, ⟨(by unfold zXM; decide +kernel), (by decide +kernel)⟩⟩
  refine lv_pop hx hb dL_law_904 rfl ?_
  refine lv_aload_n hx hb dL_law_905 rfl (lv_at hl 2 rfl) ?_
  refine lv_aload_n hx hb dL_law_906 rfl (lv_at hl 4 rfl) ?_
  refine lv_iload hx hb dL_law_907 (lv_at hl 0 rfl) ?_
  refine lv_iconst (v := 1) hx hb dL_law_909 (by decide) ?_
  refine lv_iadd hx hb dL_law_910 ?_
  refine va_sld hx hb hX hbl hbA h.2.2 (i := y + 1) h1 dL_law_911 ?_
  refine lv_topi (fun x2 ex2 => ?_)
  obtain ⟨-, -, -, pr, pq, sp, Lp, Lq, Ls, k4, k5, k6, hP, hMI⟩ := id hw
  have hIp2 := h.2.1
  refine zk_Vi (As := [.int x2]) (rest := []) (bytes := cX14_anew) (maxL := 6) (ret := (some .int)) Z h (zc_X14_anew l D k Γ L F1 H.size mo x2 pr pq hmo k4 hP.1.2.1 k5 hP.2.1.2.1) (cwV 1 hg zv_RLl_117 rfl rfl rfl (by decide +kernel) ⟨(Nat.le_of_ble_eq_true rfl), (Nat.le_of_ble_eq_true rfl)⟩) hmo (by decide) rfl rfl hl.1 rfl (Nat.le_of_ble_eq_true rfl) dL_law_912 hcs (fun r2 F2 H locs w h hf2 => ?_)
  have hw := hw.fr hf2 (by unfold zMok; decide +kernel)
  have hfe := hfe.fr hf2 hth hmo (by decide)
  have hJ := hJ.fr hf2 hth hmo (by unfold zJok zJo4; decide +kernel)
  have hD := hD.fr hf2 hth hmo (by unfold zDok; exact ⟨by decide, by unfold zDo1; decide +kernel, by unfold zDo2; decide +kernel, by unfold zDo0; decide, by unfold zDo3; decide⟩) (by unfold zDck; decide)
  have hK := hK.fr hf2 hth hmo (by decide)
  have hE := hE.fr hf2 hth hmo (by unfold zEok; exact ⟨by unfold zEo1; decide, by unfold zEo2; decide, by unfold zEo3; decide +kernel, by unfold zNpM; decide⟩)
  have hG := hG.fr hIp2 hf2 hth hmo ⟨⟨by decide, by decide⟩, (by unfold zKoF; decide +kernel), (by unfold zKoV; decide +kernel), (by unfold zKoT; decide +kernel)⟩
  have hR := hR.fr hf2 hth hmo ⟨(by unfold zRom; decide +kernel), (by decide +kernel), ⟨⟨(by unfold zMC; decide +kernel), (by unfold zMK; decide +kernel)⟩, (by decide +kernel)⟩, ⟨(by unfold zXM; decide +kernel), (by decide +kernel)⟩⟩
  refine lv_pop hx hb dL_law_915 rfl ?_
  refine lv_goto (tgt := 970) hx hb dL_law_916 (by decide) ?_
  refine W.widen (k := cells + 1) (n := slots + 6) (Nat.le_add_right _ _) (Nat.le_add_right _ _) ?_
  exact kk F2 H locs ls fe h hw hfe hJ hK hD hE hR hG hl

set_option maxHeartbeats 4000000 in
set_option maxRecDepth 100000 in
theorem law_case_22 (hst : l.stackTraces = false) (Z : zC p m c cL_law 7 s #[Value.ref b] zGL RL D k L) (hX : va_X b Ln xs s s.heap) (hbl : b < s.heap.size) (hbA : ¬ zA L s.heap.size b) (h : zH D k Γ L s F H locs) (hw : zIw Γ F th mo o) (hfe : zFe F th mo fe) (hJ : zJw Γ F th mo fe) (hK : zKw F th mo) (hD : zDw Γ F th mo) (hE : zEw Γ F th mo) (hR : zRw Γ F th mo) (hG : zKl Γ F th mo) (hl : lv_has ls 7 [(4, .int y), (3, .ref o), (2, .ref mo), (1, .ref th), (0, .ref b)]) (h1 : vp_in (y + 1) Ln) (h2 : vp_in (y + 2) Ln) (h3 : vp_in (y + 3) Ln) (h4 : vp_in (y + 4) Ln) (h5 : vp_in (y + 5) Ln) (hrm : cells + 1 ≤ room_1.cells ∧ slots + 6 ≤ room_1.slots) (kk : ∀ (F : Nat → va_E) (H : Heap) (locs : List Loc) (ls : Array Slot) (fe : Int32), zH D k Γ L s F H locs → zIw Γ F th mo o → zFe F th mo fe → zJw Γ F th mo fe → zKw F th mo → zDw Γ F th mo → zEw Γ F th mo → zRw Γ F th mo → zKl Γ F th mo → lv_has ls 7 [(4, .int y), (3, .ref o), (2, .ref mo), (1, .ref th), (0, .ref b)] → W p l e room_1 s m #[Value.ref b] below meth c H locs (cells + 1) (slots + 6) Q (F0 m 970 ls [])) : W p l e room_1 s m #[Value.ref b] below meth c H locs cells slots Q (F0 m 919 ls []) := by
  obtain ⟨hth, hmo, ho, -⟩ := id hw
  have hx := Z.1.1
  have hb := Z.1.2.1
  have hg := Z.1.2.2.2.2
  have hcs : cells ≤ room_1.cells ∧ slots ≤ room_1.slots := ⟨Nat.le_trans (Nat.le_add_right _ _) hrm.1, Nat.le_trans (Nat.le_add_right _ _) hrm.2⟩
  refine lv_aload_n hx hb dL_law_919 rfl (lv_at hl 3 rfl) ?_
  have hIp1 := h.2.1
  obtain ⟨pn, sn, tc, tp, fa, fb, la, lb, Ln9, Ls9, j2, j3, hF2, ⟨hPa, hPb⟩, ⟨hLa, hLb⟩, ⟨k0, htc⟩, ⟨k10, htp⟩, heq⟩ := id hJ
  have hpn := hF2.1.2.1
  have hsn := hF2.2.1.2.1
  obtain ⟨pnE, gr, prE, paE, tkE, nE, NE, BE, faE, fcE, izE, ipE, xE, hEx⟩ := id hE
  have enE : pnE = pn := Value.ref.inj (hEx.1.1.symm.trans j2)
  subst pnE
  have bfE : zB 0 10 fcE := z_bd h hpn (by decide) rfl hEx.2.2.1.1
  refine zk_Vi (As := []) (rest := []) (bytes := cX10_gone) (maxL := 1) (ret := (some .int)) Z h (zc_X10_gone l D k Γ L F H.size th gr hth hEx.1.2.1 hEx.2.1.2.1) (cwV 0 hg zv_RLl_118 rfl rfl rfl (by decide +kernel) ⟨(Nat.le_of_ble_eq_true rfl), (Nat.le_of_ble_eq_true rfl)⟩) hth (by decide) rfl rfl hl.1 rfl (Nat.le_of_ble_eq_true rfl) dL_law_920 hcs (fun r1 F1 H locs w h hf1 => ?_)
  have hw := hw.fr hf1 (by unfold zMok; decide +kernel)
  have hfe := hfe.fr hf1 hth hmo (by decide)
  have hJ := hJ.fr hf1 hth hmo (by unfold zJok zJo4; decide +kernel)
  have hD := hD.fr hf1 hth hmo (by unfold zDok; exact ⟨by decide, by unfold zDo1; decide +kernel, by unfold zDo2; decide +kernel, by unfold zDo0; decide, by unfold zDo3; decide⟩) (by unfold zDck; decide)
  have hK := hK.fr hf1 hth hmo (by decide)
  have hE := hE.fr hf1 hth hmo (by unfold zEok; exact ⟨by unfold zEo1; decide, by unfold zEo2; decide, by unfold zEo3; decide +kernel, by unfold zNpM; decide⟩)
  have wg1 := w.2.1
  have hEx1 := hEx.fr hf1 hth hmo (by unfold zEok; exact ⟨by unfold zEo1; decide, by unfold zEo2; decide, by unfold zEo3; decide +kernel, by unfold zNpM; decide⟩)
  have hG := hG.fr hIp1 hf1 hth hmo ⟨⟨by decide, by decide⟩, (by unfold zKoF; decide +kernel), (by unfold zKoV; decide +kernel), (by unfold zKoT; decide +kernel)⟩
  have hR := hR.fr hf1 hth hmo ⟨(by unfold zRom; decide +kernel), (by decide +kernel), ⟨⟨(by unfold zMC; decide +kernel), (by unfold zMK; decide +kernel)⟩, (by decide +kernel)⟩, ⟨(by unfold zXM; decide +kernel), (by decide +kernel)⟩⟩
  refine lv_pop hx hb dL_law_923 rfl ?_
  refine lv_aload_n hx hb dL_law_924 rfl (lv_at hl 2 rfl) ?_
  obtain ⟨-, -, -, pr, pq, sp, Lp, Lq, Ls, k4, k5, k6, hP, hMI⟩ := id hw
  have hIp2 := h.2.1
  have erE : prE = pr := Value.ref.inj ((hf1.f hmo 4 ⟨by decide, by decide⟩ hEx.1.2.2.1).symm.trans k4)
  subst prE
  have eqE : paE = pq := Value.ref.inj ((hf1.f hmo 5 ⟨by decide, by decide⟩ hEx.1.2.2.2).symm.trans k5)
  subst paE
  have kisE := hf1.f hmo 7 ⟨by decide, by decide⟩ hEx.2.2.1.2.2.1
  have bisE : zB 0 1 izE := z_bd h hmo (by decide) rfl kisE
  have kipE := hf1.f hmo 8 ⟨by decide, by decide⟩ hEx.2.2.1.2.2.2.1
  have bipE : zB 0 1 ipE := z_bd h hmo (by decide) rfl kipE
  obtain ⟨nf, knf, bnf⟩ := z_learn (j := 0) (lo := 0) (hi := 10) h hP.1.2.1 (by decide) rfl
  obtain ⟨np, knp, bnp⟩ := z_learn (j := 0) (lo := 0) (hi := 10) h hP.2.1.2.1 (by decide) rfl
  refine zk_Vi (As := []) (rest := []) (bytes := cX14_gone) (maxL := 3) (ret := (some .int)) Z h (zc_X14_gone l D k Γ L F1 H.size mo pr pq ipE nf np hmo k4 hP.1.2.1 k5 hP.2.1.2.1 kipE bipE knf bnf knp bnp) (cwV 0 hg zv_RLl_121 rfl rfl rfl (by decide +kernel) ⟨(Nat.le_of_ble_eq_true rfl), (Nat.le_of_ble_eq_true rfl)⟩) hmo (by decide) rfl rfl hl.1 rfl (Nat.le_of_ble_eq_true rfl) dL_law_925 hcs (fun r2 F2 H locs w h hf2 => ?_)
  have hw := hw.fr hf2 (by unfold zMok; decide +kernel)
  have hfe := hfe.fr hf2 hth hmo (by decide)
  have hJ := hJ.fr hf2 hth hmo (by unfold zJok zJo4; decide +kernel)
  have hD := hD.fr hf2 hth hmo (by unfold zDok; exact ⟨by decide, by unfold zDo1; decide +kernel, by unfold zDo2; decide +kernel, by unfold zDo0; decide, by unfold zDo3; decide⟩) (by unfold zDck; decide)
  have hK := hK.fr hf2 hth hmo (by decide)
  have hE := hE.fr hf2 hth hmo (by unfold zEok; exact ⟨by unfold zEo1; decide, by unfold zEo2; decide, by unfold zEo3; decide +kernel, by unfold zNpM; decide⟩)
  have wg2 := w.1
  have er := z_gon (wg1.symm.trans hEx1.2.2.1.2.2.2.2) wg2 (fun h9 => hEx1.2.2.2.2.1.elim (fun h8 => absurd h8.1 h9) (fun h8 => z_vi knf h8.2)) (fun h9 => hEx1.2.2.2.2.2.1.elim (fun h8 => absurd h8.1 h9) (fun h8 => by obtain ⟨-, -, np9, g3, g4⟩ := h8; exact ⟨np9, z_vi g3 knp, g4⟩)) (fun h9 => hEx1.2.2.2.2.2.1.elim (fun h8 => h8.2) (fun h8 => absurd h9 h8.1)) (fun h9 => hEx1.2.2.2.2.2.1.elim (fun h8 => absurd h8.1 h9) (fun h8 => h8.2.1))
  have hG := hG.fr hIp2 hf2 hth hmo ⟨⟨by decide, by decide⟩, (by unfold zKoF; decide +kernel), (by unfold zKoV; decide +kernel), (by unfold zKoT; decide +kernel)⟩
  have hR := hR.fr hf2 hth hmo ⟨(by unfold zRom; decide +kernel), (by decide +kernel), ⟨⟨(by unfold zMC; decide +kernel), (by unfold zMK; decide +kernel)⟩, (by decide +kernel)⟩, ⟨(by unfold zXM; decide +kernel), (by decide +kernel)⟩⟩
  refine lv_pop hx hb dL_law_928 rfl ?_
  refine lv_goto (tgt := 970) hx hb dL_law_929 (by decide) ?_
  refine W.widen (k := cells + 1) (n := slots + 6) (Nat.le_add_right _ _) (Nat.le_add_right _ _) ?_
  exact kk F2 H locs ls fe h hw hfe hJ hK hD hE hR hG hl

set_option maxHeartbeats 4000000 in
set_option maxRecDepth 100000 in
theorem law_case_23 (hst : l.stackTraces = false) (Z : zC p m c cL_law 7 s #[Value.ref b] zGL RL D k L) (hX : va_X b Ln xs s s.heap) (hbl : b < s.heap.size) (hbA : ¬ zA L s.heap.size b) (h : zH D k Γ L s F H locs) (hw : zIw Γ F th mo o) (hfe : zFe F th mo fe) (hJ : zJw Γ F th mo fe) (hK : zKw F th mo) (hD : zDw Γ F th mo) (hE : zEw Γ F th mo) (hR : zRw Γ F th mo) (hG : zKl Γ F th mo) (hl : lv_has ls 7 [(4, .int y), (3, .ref o), (2, .ref mo), (1, .ref th), (0, .ref b)]) (h1 : vp_in (y + 1) Ln) (h2 : vp_in (y + 2) Ln) (h3 : vp_in (y + 3) Ln) (h4 : vp_in (y + 4) Ln) (h5 : vp_in (y + 5) Ln) (hrm : cells + 1 ≤ room_1.cells ∧ slots + 6 ≤ room_1.slots) (kk : ∀ (F : Nat → va_E) (H : Heap) (locs : List Loc) (ls : Array Slot) (fe : Int32), zH D k Γ L s F H locs → zIw Γ F th mo o → zFe F th mo fe → zJw Γ F th mo fe → zKw F th mo → zDw Γ F th mo → zEw Γ F th mo → zRw Γ F th mo → zKl Γ F th mo → lv_has ls 7 [(4, .int y), (3, .ref o), (2, .ref mo), (1, .ref th), (0, .ref b)] → W p l e room_1 s m #[Value.ref b] below meth c H locs (cells + 1) (slots + 6) Q (F0 m 970 ls [])) : W p l e room_1 s m #[Value.ref b] below meth c H locs cells slots Q (F0 m 932 ls []) := by
  obtain ⟨hth, hmo, ho, -⟩ := id hw
  have hx := Z.1.1
  have hb := Z.1.2.1
  have hg := Z.1.2.2.2.2
  have hcs : cells ≤ room_1.cells ∧ slots ≤ room_1.slots := ⟨Nat.le_trans (Nat.le_add_right _ _) hrm.1, Nat.le_trans (Nat.le_add_right _ _) hrm.2⟩
  refine lv_aload_n hx hb dL_law_932 rfl (lv_at hl 3 rfl) ?_
  refine lv_aload_n hx hb dL_law_933 rfl (lv_at hl 4 rfl) ?_
  refine lv_iload hx hb dL_law_934 (lv_at hl 0 rfl) ?_
  refine lv_iconst (v := 1) hx hb dL_law_936 (by decide) ?_
  refine lv_iadd hx hb dL_law_937 ?_
  refine va_sld hx hb hX hbl hbA h.2.2 (i := y + 1) h1 dL_law_938 ?_
  refine lv_topi (fun x1 ex1 => ?_)
  have hIp1 := h.2.1
  obtain ⟨pn, sn, tc, tp, fa, fb, la, lb, Ln9, Ls9, j2, j3, hF2, ⟨hPa, hPb⟩, ⟨hLa, hLb⟩, ⟨k0, htc⟩, ⟨k10, htp⟩, heq⟩ := id hJ
  have hpn := hF2.1.2.1
  have hsn := hF2.2.1.2.1
  obtain ⟨pn9, to, pr9, fa9, la9, fc, lc, sz_, is_, hDx, hDc⟩ := id hD
  obtain ⟨cv, ch, kn, q1, q2, q3, q4, q5, q6, q7, q8⟩ := id hDc
  have bkn : zB 0 1 kn := z_bd h q4 (by decide) rfl q5
  have en9 : pn9 = pn := Value.ref.inj (hDx.1.1.symm.trans j2)
  subst pn9
  have hto := hDx.2.1.2.1
  have kto := hDx.1.2.1
  have bfc : zB 0 10 fc := z_bd h hpn (by decide) rfl hDx.2.2.1.1
  have blc : zB 0 60 lc := z_bd h hpn (by decide) rfl hDx.2.2.1.2.1
  have bsz : zB 0 12 sz_ := z_bd h hto (by decide) rfl hDx.2.2.2.1
  refine zk_Vi (As := [.int x1]) (rest := []) (bytes := cX10_count) (maxL := 2) (ret := (some .int)) Z h (zc_X10_count l D k Γ L F H.size th x1 pn to fc lc sz_ fe hth j2 hpn kto hto hDx.2.2.1.1 bfc hDx.2.2.1.2.1 blc hDx.2.2.2.1 bsz hfe.1 hfe.2.2) (cwV 1 hg zv_RLl_122 rfl rfl rfl (by decide +kernel) ⟨(Nat.le_of_ble_eq_true rfl), (Nat.le_of_ble_eq_true rfl)⟩) hth (by decide) rfl rfl hl.1 rfl (Nat.le_of_ble_eq_true rfl) dL_law_939 hcs (fun r1 F1 H locs w h hf1 => ?_)
  have hw := hw.fr hf1 (by unfold zMok; decide +kernel)
  have hfe := hfe.fr hf1 hth hmo (by decide)
  have hJ := hJ.fr hf1 hth hmo (by unfold zJok zJo4; decide +kernel)
  have hD := hD.fr hf1 hth hmo (by unfold zDok; exact ⟨by decide, by unfold zDo1; decide +kernel, by unfold zDo2; decide +kernel, by unfold zDo0; decide, by unfold zDo3; decide⟩) (by unfold zDck; decide)
  have hK := hK.fr hf1 hth hmo (by decide)
  have hE := hE.fr hf1 hth hmo (by unfold zEok; exact ⟨by unfold zEo1; decide, by unfold zEo2; decide, by unfold zEo3; decide +kernel, by unfold zNpM; decide⟩)
  have wc1 := w.2.1
  have hG := hG.fr hIp1 hf1 hth hmo ⟨⟨by decide, by decide⟩, (by unfold zKoF; decide +kernel), (by unfold zKoV; decide +kernel), (by unfold zKoT; decide +kernel)⟩
  have hR := hR.fr hf1 hth hmo ⟨(by unfold zRom; decide +kernel), (by decide +kernel), ⟨⟨(by unfold zMC; decide +kernel), (by unfold zMK; decide +kernel)⟩, (by decide +kernel)⟩, ⟨(by unfold zXM; decide +kernel), (by decide +kernel)⟩⟩
  refine lv_pop hx hb dL_law_942 rfl ?_
  refine lv_aload_n hx hb dL_law_943 rfl (lv_at hl 2 rfl) ?_
  refine lv_aload_n hx hb dL_law_944 rfl (lv_at hl 4 rfl) ?_
  refine lv_iload hx hb dL_law_945 (lv_at hl 0 rfl) ?_
  refine lv_iconst (v := 1) hx hb dL_law_947 (by decide) ?_
  refine lv_iadd hx hb dL_law_948 ?_
  refine va_sld hx hb hX hbl hbA h.2.2 (i := y + 1) h1 dL_law_949 ?_
  refine lv_topi (fun x2 ex2 => ?_)
  obtain ⟨-, -, -, pr, pq, sp, Lp, Lq, Ls, k4, k5, k6, hP, hMI⟩ := id hw
  have hIp2 := h.2.1
  have er9 : pr9 = pr := Value.ref.inj ((hf1.f hmo 4 ⟨by decide, by decide⟩ hDx.1.2.2).symm.trans k4)
  subst pr9
  have hpr9 := hDx.2.1.2.2.1
  have k7 := hf1.f hmo 7 ⟨by decide, by decide⟩ hDx.2.2.2.2.2.1
  have k32 := hf1.f hmo 32 ⟨by decide, by decide⟩ hDx.2.2.2.2.1
  have bis : zB 0 1 is_ := z_bd h hmo (by decide) rfl k7
  obtain ⟨nf, knf, bnf⟩ := z_learn (j := 0) (lo := 0) (hi := 10) h hpr9 (by decide) rfl
  obtain ⟨nl, knl, bnl⟩ := z_learn (j := 1) (lo := 0) (hi := 60) h hpr9 (by decide) rfl
  have d7 : (is_.toInt = 0 ∧ fc.toInt = 0 ∧ lc.toInt = 0) ∨ (is_.toInt ≠ 0 ∧ nf = fc ∧ nl = lc) := hDx.2.2.2.2.2.2.imp id (fun h9 => ⟨h9.1, z_vi knf (hf1.f hpr9 0 ⟨by decide, by decide⟩ h9.2.1), z_vi knl (hf1.f hpr9 1 ⟨by decide, by decide⟩ h9.2.2.1)⟩)
  refine zk_Vi (As := [.int x2]) (rest := []) (bytes := cX14_count) (maxL := 2) (ret := (some .int)) Z h (zc_X14_count l D k Γ L F1 H.size mo x2 pr is_ nf nl sz_ fe hmo k4 hP.1.2.1 k7 bis knf bnf knl bnl k32 bsz hfe.2.1 hfe.2.2) (cwV 1 hg zv_RLl_125 rfl rfl rfl (by decide +kernel) ⟨(Nat.le_of_ble_eq_true rfl), (Nat.le_of_ble_eq_true rfl)⟩) hmo (by decide) rfl rfl hl.1 rfl (Nat.le_of_ble_eq_true rfl) dL_law_950 hcs (fun r2 F2 H locs w h hf2 => ?_)
  have hw := hw.fr hf2 (by unfold zMok; decide +kernel)
  have hfe := hfe.fr hf2 hth hmo (by decide)
  have hJ := hJ.fr hf2 hth hmo (by unfold zJok zJo4; decide +kernel)
  have hD := hD.fr hf2 hth hmo (by unfold zDok; exact ⟨by decide, by unfold zDo1; decide +kernel, by unfold zDo2; decide +kernel, by unfold zDo0; decide, by unfold zDo3; decide⟩) (by unfold zDck; decide)
  have hK := hK.fr hf2 hth hmo (by decide)
  have hE := hE.fr hf2 hth hmo (by unfold zEok; exact ⟨by unfold zEo1; decide, by unfold zEo2; decide, by unfold zEo3; decide +kernel, by unfold zNpM; decide⟩)
  have e12 : x2 = x1 := ex2.trans ex1.symm
  have wc2 := w.1
  rw [e12] at wc2
  have er := z_cnt wc1 wc2 d7
  have hG := hG.fr hIp2 hf2 hth hmo ⟨⟨by decide, by decide⟩, (by unfold zKoF; decide +kernel), (by unfold zKoV; decide +kernel), (by unfold zKoT; decide +kernel)⟩
  have hR := hR.fr hf2 hth hmo ⟨(by unfold zRom; decide +kernel), (by decide +kernel), ⟨⟨(by unfold zMC; decide +kernel), (by unfold zMK; decide +kernel)⟩, (by decide +kernel)⟩, ⟨(by unfold zXM; decide +kernel), (by decide +kernel)⟩⟩
  refine lv_pop hx hb dL_law_953 rfl ?_
  refine lv_goto (tgt := 970) hx hb dL_law_954 (by decide) ?_
  refine W.widen (k := cells + 1) (n := slots + 6) (Nat.le_add_right _ _) (Nat.le_add_right _ _) ?_
  exact kk F2 H locs ls fe h hw hfe hJ hK hD hE hR hG hl

set_option maxHeartbeats 4000000 in
set_option maxRecDepth 100000 in
theorem law_case_24 (hst : l.stackTraces = false) (Z : zC p m c cL_law 7 s #[Value.ref b] zGL RL D k L) (hX : va_X b Ln xs s s.heap) (hbl : b < s.heap.size) (hbA : ¬ zA L s.heap.size b) (h : zH D k Γ L s F H locs) (hw : zIw Γ F th mo o) (hfe : zFe F th mo fe) (hJ : zJw Γ F th mo fe) (hK : zKw F th mo) (hD : zDw Γ F th mo) (hE : zEw Γ F th mo) (hR : zRw Γ F th mo) (hG : zKl Γ F th mo) (hl : lv_has ls 7 [(4, .int y), (3, .ref o), (2, .ref mo), (1, .ref th), (0, .ref b)]) (h1 : vp_in (y + 1) Ln) (h2 : vp_in (y + 2) Ln) (h3 : vp_in (y + 3) Ln) (h4 : vp_in (y + 4) Ln) (h5 : vp_in (y + 5) Ln) (hrm : cells + 1 ≤ room_1.cells ∧ slots + 6 ≤ room_1.slots) (kk : ∀ (F : Nat → va_E) (H : Heap) (locs : List Loc) (ls : Array Slot) (fe : Int32), zH D k Γ L s F H locs → zIw Γ F th mo o → zFe F th mo fe → zJw Γ F th mo fe → zKw F th mo → zDw Γ F th mo → zEw Γ F th mo → zRw Γ F th mo → zKl Γ F th mo → lv_has ls 7 [(4, .int y), (3, .ref o), (2, .ref mo), (1, .ref th), (0, .ref b)] → W p l e room_1 s m #[Value.ref b] below meth c H locs (cells + 1) (slots + 6) Q (F0 m 970 ls [])) : W p l e room_1 s m #[Value.ref b] below meth c H locs cells slots Q (F0 m 957 ls []) := by
  obtain ⟨hth, hmo, ho, -⟩ := id hw
  have hx := Z.1.1
  have hb := Z.1.2.1
  have hg := Z.1.2.2.2.2
  have hcs : cells ≤ room_1.cells ∧ slots ≤ room_1.slots := ⟨Nat.le_trans (Nat.le_add_right _ _) hrm.1, Nat.le_trans (Nat.le_add_right _ _) hrm.2⟩
  refine lv_aload_n hx hb dL_law_957 rfl (lv_at hl 3 rfl) ?_
  have hIp1 := h.2.1
  obtain ⟨pn, sn, tc, tp, fa, fb, la, lb, Ln9, Ls9, j2, j3, hF2, ⟨hPa, hPb⟩, ⟨hLa, hLb⟩, ⟨k0, htc⟩, ⟨k10, htp⟩, heq⟩ := id hJ
  have hpn := hF2.1.2.1
  have hsn := hF2.2.1.2.1
  refine zk_Vi (As := []) (rest := []) (bytes := cX10_trouble) (maxL := 1) (ret := (some .int)) Z h (zc_X10_trouble l D k Γ L F H.size th hth) (cwV 0 hg zv_RLl_126 rfl rfl rfl (by decide +kernel) ⟨(Nat.le_of_ble_eq_true rfl), (Nat.le_of_ble_eq_true rfl)⟩) hth (by decide) rfl rfl hl.1 rfl (Nat.le_of_ble_eq_true rfl) dL_law_958 hcs (fun r1 F1 H locs w h hf1 => ?_)
  have hw := hw.fr hf1 (by unfold zMok; decide +kernel)
  have hfe := hfe.fr hf1 hth hmo (by decide)
  have hJ := hJ.fr hf1 hth hmo (by unfold zJok zJo4; decide +kernel)
  have hD := hD.fr hf1 hth hmo (by unfold zDok; exact ⟨by decide, by unfold zDo1; decide +kernel, by unfold zDo2; decide +kernel, by unfold zDo0; decide, by unfold zDo3; decide⟩) (by unfold zDck; decide)
  have hK := hK.fr hf1 hth hmo (by decide)
  have hE := hE.fr hf1 hth hmo (by unfold zEok; exact ⟨by unfold zEo1; decide, by unfold zEo2; decide, by unfold zEo3; decide +kernel, by unfold zNpM; decide⟩)
  have hG := hG.fr hIp1 hf1 hth hmo ⟨⟨by decide, by decide⟩, (by unfold zKoF; decide +kernel), (by unfold zKoV; decide +kernel), (by unfold zKoT; decide +kernel)⟩
  have hR := hR.fr hf1 hth hmo ⟨(by unfold zRom; decide +kernel), (by decide +kernel), ⟨⟨(by unfold zMC; decide +kernel), (by unfold zMK; decide +kernel)⟩, (by decide +kernel)⟩, ⟨(by unfold zXM; decide +kernel), (by decide +kernel)⟩⟩
  refine lv_pop hx hb dL_law_961 rfl ?_
  refine lv_aload_n hx hb dL_law_962 rfl (lv_at hl 2 rfl) ?_
  obtain ⟨-, -, -, pr, pq, sp, Lp, Lq, Ls, k4, k5, k6, hP, hMI⟩ := id hw
  have hIp2 := h.2.1
  refine zk_Vi (As := []) (rest := []) (bytes := cX14_trouble) (maxL := 1) (ret := (some .int)) Z h (zc_X14_trouble l D k Γ L F1 H.size mo hmo) (cwV 0 hg zv_RLl_129 rfl rfl rfl (by decide +kernel) ⟨(Nat.le_of_ble_eq_true rfl), (Nat.le_of_ble_eq_true rfl)⟩) hmo (by decide) rfl rfl hl.1 rfl (Nat.le_of_ble_eq_true rfl) dL_law_963 hcs (fun r2 F2 H locs w h hf2 => ?_)
  have hw := hw.fr hf2 (by unfold zMok; decide +kernel)
  have hfe := hfe.fr hf2 hth hmo (by decide)
  have hJ := hJ.fr hf2 hth hmo (by unfold zJok zJo4; decide +kernel)
  have hD := hD.fr hf2 hth hmo (by unfold zDok; exact ⟨by decide, by unfold zDo1; decide +kernel, by unfold zDo2; decide +kernel, by unfold zDo0; decide, by unfold zDo3; decide⟩) (by unfold zDck; decide)
  have hK := hK.fr hf2 hth hmo (by decide)
  have hE := hE.fr hf2 hth hmo (by unfold zEok; exact ⟨by unfold zEo1; decide, by unfold zEo2; decide, by unfold zEo3; decide +kernel, by unfold zNpM; decide⟩)
  have hG := hG.fr hIp2 hf2 hth hmo ⟨⟨by decide, by decide⟩, (by unfold zKoF; decide +kernel), (by unfold zKoV; decide +kernel), (by unfold zKoT; decide +kernel)⟩
  have hR := hR.fr hf2 hth hmo ⟨(by unfold zRom; decide +kernel), (by decide +kernel), ⟨⟨(by unfold zMC; decide +kernel), (by unfold zMK; decide +kernel)⟩, (by decide +kernel)⟩, ⟨(by unfold zXM; decide +kernel), (by decide +kernel)⟩⟩
  refine lv_pop hx hb dL_law_966 rfl ?_
  refine lv_goto (tgt := 970) hx hb dL_law_967 (by decide) ?_
  refine W.widen (k := cells + 1) (n := slots + 6) (Nat.le_add_right _ _) (Nat.le_add_right _ _) ?_
  exact kk F2 H locs ls fe h hw hfe hJ hK hD hE hR hG hl
end
