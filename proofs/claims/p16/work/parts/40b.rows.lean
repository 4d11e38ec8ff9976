/-! The rows of constructors over typed worlds that grow. -/
theorem zi_blind {D : va_G} {k : Nat → ClassId} {t : Nat} {fs : List Value} {h0 sz : Nat} {av : List Value} : FrameBlind (va_Pc av (zPi D k t fs h0 sz)) := fun a U g mk q => by
  obtain ⟨q0, q1, qP, qK, qN, qZ1, qZ2⟩ := q
  exact ⟨q0, q1, qP, va_K.moved (u := U) (U := U.calling g mk a) (Vm.Alike.refl U.vm) qK, qN.warm (State.WarmedH.refl U), vx_Zq.moved (u := U) (U := U.calling g mk a) (Vm.Alike.refl U.vm) qZ1, vx_Zq.moved (u := U) (U := U.calling g mk a) (Vm.Alike.refl U.vm) qZ2⟩
def zVs (Γ : Nat → Option Nat) : List (Nat × Int × Int) → List Value → Prop
  | [], [] => True
  | q :: qs, v :: vs => zV Γ q v ∧ zVs Γ qs vs
  | _, _ => False
theorem zVs.at {Γ : Nat → Option Nat} : ∀ {qs : List (Nat × Int × Int)} {vs : List Value}, zVs Γ qs vs → vs.length = qs.length ∧ ∀ (j : Nat) (q : Nat × Int × Int), qs[j]? = some q → zV Γ q (vs.getD j .null)
  | [], [], _ => ⟨rfl, fun j q h => by simp at h⟩
  | q :: qs, v :: vs, ⟨h1, h2⟩ => by
    obtain ⟨g1, g2⟩ := zVs.at h2
    refine ⟨by simp [g1], fun j x hx => ?_⟩
    cases j with
    | zero =>
      simp at hx
      subst hx
      exact h1
    | succ j =>
      simp at hx
      have := g2 j x hx
      simpa using this
section
variable {p : Program} {l : Launch} {e : Env} {R : Room} {s : State} {m : MethodId} {args : Array Value} {below : List Frame} {meth : Method} {c : Code} {H : Heap} {locs : List Loc} {cells slots : Nat} {Q : State → Prop}
variable {cc : ByteArray} {pc nL : Nat} {ls : Array Slot} {rest st0 : List Value} {D : va_G} {k : Nat → ClassId} {Γ : Nat → Option Nat} {L : List Nat} {F : Nat → va_E} {Ts : List Cond} {own : String} {A : Nat → Prop}
theorem zU.none (h : zU D k A s Γ L F H locs) {q : Nat} (hq : q ∉ L) : Γ q = none := by
  cases hg : Γ q with
  | none => rfl
  | some t => exact absurd (h.2.2.2.1 q t hg).1 hq
theorem zj_arr (Y : zY p m c cc nL s args Ts own D k A) (h : zU D k A s Γ L F H locs) {atype : ArrayType} {ty : FieldType} {κ tc N' : Nat} {n : Int32} {a0 : vp_A} (harr : (Cond.arrayClass (newarray.typeOf atype)).before args s = true) (hty : newarray.typeOf atype = ty) (hκ : (zT k)[κ]? = some (k κ, ty)) (hra : ∀ c, va_RA s c ty → s.vm.findClass ("[" ++ ty.toString) = some c) (ha : ∀ cA : ClassId, vp_cell cA a0 = arrV cA N' (fun _ => defaultValue ty)) (hn : ¬ n < 0) (hN : n.toNatClampNeg = N') (hbytes : N' * componentBytes ty ≤ 536870912) (hcells : cells + 1 ≤ R.cells) (hslots : slots + N' ≤ R.slots) (htc : 100 ≤ tc) (hz : ∀ (Γ' : Nat → Option Nat) (F' : Nat → va_E) (q : Nat), F' q = .inl (k κ, a0) → zAr Γ' k F' q tc) (hdg : decode cc pc = .ok (.newarray atype, 2))
    (kk : ∀ (q : Nat) (Γ' : Nat → Option Nat) (F' : Nat → va_E) (H1 : Heap), q ∉ L → Γ' q = some tc → F' q = .inl (k κ, a0) → (∀ a, a ∈ L → Γ' a = Γ a ∧ F' a = F a) → zU D k A s Γ' (L ++ [q]) F' H1 locs → W p l e R s m args below meth c H1 locs (cells + 1) (slots + N') Q (F0 m (pc + 2) ls (.ref q :: rest))) : W p l e R s m args below meth c H locs cells slots Q (F0 m pc ls (.int n :: rest)) := by
  obtain ⟨⟨hx, hb, hml, hown, hts⟩, hK, hN0, hZ, hA⟩ := Y
  have h9 := h
  obtain ⟨hP, hLn, hLA, hI, hS⟩ := h
  refine va_newa hx hb harr hty hK hP (zj_D hLn hLA) hS hA ha hn hN hbytes hcells hslots hdg (fun q cA H1 hK1 hP1 hD1 hS1 => ?_)
  have e : cA = k κ := by
    have h1 := hra _ (hK1.2 5 (cA, ty) (by simp [zT])).2
    have h2 := hra _ (hK.2 κ _ hκ).2
    exact Option.some.inj (h1.symm.trans h2)
  rw [e] at hP1 hD1
  obtain ⟨hq, hAq⟩ := zj_nd hD1
  have hne : ∀ a, a ∈ L → a ≠ q := fun a ha h => hq (h ▸ ha)
  refine kk q (fun a => if a = q then some tc else Γ a) (va_up F q (.inl (k κ, a0))) H1 hq (if_pos rfl) (va_up_self _ _ _) (fun a ha => ⟨if_neg (hne a ha), va_up_ne F _ (hne a ha)⟩) ⟨by rw [zj_app hq]; exact hP1, zj_nodup hLn hq, fun a ha => ?_, hI.add (h9.none hq) (fun a ha => List.mem_append_left _ ha) (List.mem_append_right _ (List.mem_singleton.mpr rfl)) (fun a ha => va_up_ne F _ ha) (fun h => by omega) (fun _ => hz _ _ q (va_up_self _ _ _)), hS1⟩
  rcases List.mem_append.mp ha with h | h
  · exact hLA a h
  · rw [List.mem_singleton.mp h]
    exact hAq
theorem zj_put {own ref C : String} {T : u_T} {N t h0 index : Nat} (Y : zY p m c cc nL s args Ts own D k A) (h : zU D k A s Γ L F H locs) (h0L : h0 ∈ L) (h0Γ : Γ h0 = none) {fs : List Value} (hF : F h0 = .inr (t, fs)) (hin : ∀ w ∈ u_ws C T N, w ∈ Ts) (ty0 : Nat → FieldType) (hty : ∀ k, k < N → parseFieldDescriptor (T k).2.2.1 = some (ty0 k)) (hnm : ∀ a, a < N → ∀ b, b < N → a ≠ b → (T a).2.1 ≠ (T b).2.1) (hc : z_Cl[t]? = some (C, T, N)) (j : Nat) (hj : j < N) (hlink : Cond.fieldLink own index ref (T j).2.1 (T j).2.2.1 ∈ Ts) (hsame : ∀ x, s.fieldFound? (T j).1 (T j).2.1 (T j).2.2.1 = some x → s.fieldFound? ref (T j).2.1 (T j).2.2.1 = some x) (hfin : (T j).2.2.2 = true) (hin2 : meth.name = "<init>") (hdecl : (T j).1 = own) {v : Value} (hn : narrow (ty0 j) v = v) (hfit : fits (ty0 j) v = true) (hl : j < fs.length) (hdg : decode cc pc = .ok (.putfield index, 3))
    (kk : ∀ (F' : Nat → va_E) (H1 : Heap) (locs1 : List Loc), F' h0 = .inr (t, fs.set j v) → (∀ a, a ≠ h0 → F' a = F a) → zU D k A s Γ L F' H1 locs1 → W p l e R s m args below meth c H1 locs1 cells slots Q (F0 m (pc + 3) ls rest)) : W p l e R s m args below meth c H locs cells slots Q (F0 m pc ls (v :: .ref h0 :: rest)) := by
  obtain ⟨⟨hx, hb, hml, hown, hts⟩, hK, hN0, hZ, hA⟩ := Y
  obtain ⟨hP, hLn, hLA, hI, hS⟩ := h
  have hD := zj_D (F := F) hLn hLA
  obtain ⟨i0, hi0⟩ := va_pl_get (X := []) (f := F) h0L
  have he := va_pl_set (X := []) (e := .inr (t, fs.set j v)) hD h0L hi0
  rw [hF] at hi0
  rw [List.nil_append, List.nil_append] at he
  refine va_putF (ws := va_pl L F) hx hb hts hin ty0 hty hnm hown hK hP hD hS i0 hi0 hc j hj (hts _ hlink) hsame hfin hin2 hdecl (hty j hj) hn hfit hl hdg (fun H1 locs1 q1 _ q3 => kk (va_up F h0 (.inr (t, fs.set j v))) H1 locs1 (va_up_self _ _ _) (fun a ha => va_up_ne F _ ha) ⟨by rw [← he]; exact q1, hLn, hLA, ?_, q3⟩)
  intro a t' hat
  have hne : a ≠ h0 := fun h => by rw [h, h0Γ] at hat; cases hat
  obtain ⟨g1, g2, g3⟩ := hI a t' hat
  refine ⟨g1, fun h => ?_, fun h => ?_⟩
  · obtain ⟨fs', k1, k2, k3⟩ := g2 h
    refine ⟨fs', by rw [va_up_ne F _ hne]; exact k1, k2, fun i x hx => ?_⟩
    have e9 : zfld (va_up F h0 (.inr (t, fs.set j v))) a i = zfld F a i := by
      unfold zfld
      rw [va_up_ne F _ hne]
    rw [e9]
    exact k3 i x hx
  · have := g3 h
    unfold zAr at this ⊢
    rw [va_up_ne F _ hne]
    exact this
theorem zj_end {h0 t : Nat} {fs : List Value} (h : zU D k A s Γ L F H locs) (h0L : h0 ∈ L) (h0Γ : Γ h0 = none) (hF : F h0 = .inr (t, fs)) (ht : t < 100) (hv : zVs (fun a => if a = h0 then some t else Γ a) (zsp t) fs) : zU D k A s (fun a => if a = h0 then some t else Γ a) L F H locs := by
  obtain ⟨hP, hLn, hLA, hI, hS⟩ := h
  obtain ⟨g1, g2⟩ := hv.at
  refine ⟨hP, hLn, hLA, hI.add h0Γ (fun a ha => ha) h0L (fun a _ => rfl) (fun _ => ⟨fs, hF, g1, fun j q hq => ?_⟩) (fun h => by omega), hS⟩
  have e9 : zfld F h0 j = fs.getD j .null := by
    unfold zfld
    rw [hF]
  rw [e9]
  exact g2 j q hq
/-- the callee's typed world beside ours -/
theorem zj_merge {Γ2 : Nat → Option Nat} {L2 : List Nat} {F2 : Nat → va_E} {q : Nat} {H1 : Heap} {locs1 : List Loc} (h : zU D k A s Γ L F H locs) (hq : q ∉ L) (hAq : A q) (hA : ∀ x, s.heap.size ≤ x → A x) (hz : H.size ≤ H1.size) (hk1 : ∀ x : Nat, x < H.size → ¬ zA0 q (H.size) x → H1[x]? = H[x]?) (hS1 : va_S A s.heap H1 locs1) (hP2 : va_P D z_Cl (va_pl L2 F2) H1) (hN2 : L2.Nodup) (hA2 : ∀ a ∈ L2, zA0 q H.size a) (hI2 : zInv Γ2 k L2 F2) :
    (∀ a ∈ L, a ∉ L2) ∧ zU D k A s (zmg L2 Γ Γ2) (L ++ L2) (zmg L2 F F2) H1 locs1 := by
  obtain ⟨hP, hLn, hLA, hI, hS⟩ := h
  have hlt : ∀ a ∈ L, a < H.size ∧ a ≠ q := fun a ha => by
    obtain ⟨j, hj⟩ := va_pl_get (X := []) (f := F) ha
    exact ⟨(hP j _ hj).lt, fun h => hq (h ▸ ha)⟩
  have hd : ∀ a ∈ L, a ∉ L2 := fun a ha h2 => by
    obtain ⟨g1, g2⟩ := hlt a ha
    rcases hA2 a h2 with h | h
    · exact g2 h
    · omega
  refine ⟨hd, ?_, ?_, ?_, (hI.join hI2 hd).1, hS1⟩
  · intro j x hj
    have e1 : va_pl (L ++ L2) (zmg L2 F F2) = va_pl L F ++ va_pl L2 F2 := by
      have e2 : va_pl L (zmg L2 F F2) = va_pl L F := zj_eq (fun a ha => by unfold zmg; rw [if_neg (hd a ha)])
      have e3 : va_pl L2 (zmg L2 F F2) = va_pl L2 F2 := zj_eq (fun a ha => by unfold zmg; rw [if_pos ha])
      have e4 : va_pl (L ++ L2) (zmg L2 F F2) = va_pl L (zmg L2 F F2) ++ va_pl L2 (zmg L2 F F2) := by simp [va_pl]
      rw [e4, e2, e3]
    rw [e1] at hj
    rcases List.mem_append.mp (List.mem_of_getElem? hj) with hm | hm
    · obtain ⟨i, hi⟩ := List.getElem?_of_mem hm
      have hat := hP i x hi
      simp only [va_pl, List.mem_map] at hm
      obtain ⟨a, ha, rfl⟩ := hm
      obtain ⟨g1, g2⟩ := hlt a ha
      exact hat.kept (hk1 a g1 (fun h => h.elim g2 (fun h => by omega)))
    · obtain ⟨i, hi⟩ := List.getElem?_of_mem hm
      exact hP2 i x hi
  · rw [List.nodup_append]
    exact ⟨hLn, hN2, fun a ha b hb h => hd a ha (h ▸ hb)⟩
  · intro a ha
    rcases List.mem_append.mp ha with h | h
    · exact hLA a h
    · rcases hA2 a h with h | h
      · rw [h]
        exact hAq
      · exact hA a (Nat.le_trans hS.1 h)
theorem zi_pre {t q : Nat} {fs : List Value} {A : Nat → Prop} {s : State} {H : Heap} {locs : List Loc} {ws : va_W} (hP : va_P D z_Cl (ws ++ [(q, .inr (t, fs))]) H) (hK : va_K D z_Cl (zT k) s) (hN : z_N s) (hZ : z_st A s s.heap) (hS : va_S A s.heap H locs) (hAq : A q) (hA : ∀ x, s.heap.size ≤ x → A x) :
    ∀ U : State, U.heap = H → s.WarmedH U.vm → va_Pc [.ref q] (zPi D k t fs q H.size) ([.ref q] : List Value).toArray U := fun U hU hW => by
  have hF : ∀ x, zA0 q H.size x → A x := fun x h => h.elim (fun h => by rw [h]; exact hAq) (fun h => hA x (Nat.le_trans hS.1 h))
  refine ⟨rfl, by rw [hU], ?_, va_K.moved hW.alike hK, hN.warm hW, by rw [hU]; exact vx_Zq.moved hW.alike ((hZ.1.kept hS.2.1).narrow hF), by rw [hU]; exact vx_Zq.moved hW.alike ((hZ.2.kept hS.2.1).narrow hF)⟩
  rw [hU]
  intro j x hj
  have hj0 : j = 0 := by
    have := (List.getElem?_eq_some_iff.mp hj).1
    simp at this
    exact this
  subst hj0
  have hx : (q, Sum.inr (t, fs)) = x := by simpa using hj
  subst hx
  exact hP ws.length _ (by simp)
end
