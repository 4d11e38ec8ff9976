/-! Arrays exactly. -/
def zre (F : Nat → va_E) (a n : Nat) : Option Nat := match F a with
  | .inl (_, _, .inr (.inr (.inr (.inr f)))) => f n
  | _ => none
def zar (F : Nat → va_E) (a j : Nat) : Nat → Int32 := match zfld F a j with
  | .ref b => zel F b
  | _ => fun _ => 0
theorem zar_eq {F : Nat → va_E} {a j b : Nat} (h : zfld F a j = .ref b) : zar F a j = zel F b := by
  unfold zar
  rw [h]
theorem zar_st {F F1 : Nat → va_E} {a j b i : Nat} {x : Int32} (h1 : zfld F a j = .ref b) (h2 : zfld F1 a j = .ref b) (e : zel F1 b i = x) (g : ∀ b' j' : Nat, (b' ≠ b ∨ j' ≠ i) → zel F1 b' j' = zel F b' j') : zar F1 a j = upd (zar F a j) i x := by
  rw [zar_eq h1, zar_eq h2]
  funext n
  unfold upd
  by_cases q : n = i
  · rw [if_pos q, q]
    exact e
  · rw [if_neg q]
    exact g b n (Or.inr q)
theorem zFr.elf {Γ : Nat → Option Nat} {M : List Nat} {F F1 : Nat → va_E} (h : zFr Γ M F F1) {a t : Nat} (ha : Γ a = some t) (hj : 100 ≤ t ∧ 100 * t ∉ M) : zel F1 a = zel F a := by
  funext n
  exact h.el ha hj rfl
theorem z_vi {x y : Int32} {v : Value} (h1 : v = .int x) (h2 : v = .int y) : x = y := Value.int.inj (h1.symm.trans h2)
theorem z_vl {x y : Int64} {v : Value} (h1 : v = .long x) (h2 : v = .long y) : x = y := Value.long.inj (h1.symm.trans h2)
section
variable {p : Program} {l : Launch} {e : Env} {R : Room} {s : State} {m : MethodId} {args : Array Value} {below : List Frame} {meth : Method} {c : Code} {H : Heap} {locs : List Loc} {cells slots : Nat} {Q : State → Prop}
variable {cc : ByteArray} {pc nL : Nat} {ls : Array Slot} {rest st0 : List Value} {D : va_G} {k : Nat → ClassId} {Γ : Nat → Option Nat} {L : List Nat} {F : Nat → va_E} {Ts : List Cond} {own : String} {t a n : Nat} {lo hi : Int} {i : Int32} {b0 b1 : Int}
theorem zt_balde (Z : zC p m c cc nL s args Ts own D k L) (h : zH D k Γ L s F H locs) (ha : Γ a = some t) (hq : 100 ≤ t ∧ zas t = (0, n, lo, hi)) (bi : zB b0 b1 i) (hb : 0 ≤ b0 ∧ b1 < n) (hdg : decode cc pc = .ok (.baload, 1))
    (kk : ∀ x : Int32, zel F a i.toNatClampNeg = x → zB lo hi x → W p l e R s m args below meth c H locs cells slots Q (F0 m (pc + 1) ls (.int x :: rest))) : W p l e R s m args below meth c H locs cells slots Q (F0 m pc ls (.int i :: .ref a :: rest)) := by
  obtain ⟨⟨hx, hbb, hml, hown, hts⟩, hK, hLn, hE⟩ := Z
  obtain ⟨hP, hI, hS⟩ := h
  obtain ⟨hL, f, hF, hall⟩ := zt_ints hI ha hq (by decide)
  exact zf_bald hx hbb hK hP hL 0 hF rfl (z_idx bi hb) hdg (kk _ (zel_of hF) (hall _ (z_clamp bi hb)))
theorem zt_baste (Z : zC p m c cc nL s args Ts own D k L) (h : zH D k Γ L s F H locs) (ha : Γ a = some t) (hq : 100 ≤ t ∧ zas t = (0, n, -128, 127)) (bi : zB b0 b1 i) (hb : 0 ≤ b0 ∧ b1 < n) {x : Int32} (hdg : decode cc pc = .ok (.bastore, 1))
    (kk : ∀ (H1 : Heap) (locs1 : List Loc) (F1 : Nat → va_E), zH D k Γ L s F1 H1 locs1 → zFr Γ [100 * t] F F1 → zel F1 a i.toNatClampNeg = vp_nar .byte x → (∀ b j : Nat, (b ≠ a ∨ j ≠ i.toNatClampNeg) → zel F1 b j = zel F b j) → W p l e R s m args below meth c H1 locs1 cells slots Q (F0 m (pc + 1) ls rest)) : W p l e R s m args below meth c H locs cells slots Q (F0 m pc ls (.int x :: .int i :: .ref a :: rest)) := by
  obtain ⟨⟨hx, hbb, hml, hown, hts⟩, hK, hLn, hE⟩ := Z
  obtain ⟨hP, hI, hS⟩ := h
  obtain ⟨hL, f, hF, hall⟩ := zt_ints hI ha hq (by decide)
  obtain ⟨g1, g2⟩ := zA_put hI ha hq.1 (e := .inl (k 0, n, .inl (upd f i.toNatClampNeg (vp_nar .byte x)))) (fun F' hF' => by unfold zAr; rw [hq.2]; exact ⟨_, hF', z_upd hall (z_nar8 x)⟩) (fun x q => by cases q) (fun x q => by rw [hF] at q; cases q)
  refine zf_bast hx hbb hK hP (zD hLn) hS hL 0 hF rfl (z_idx bi hb) hdg (fun H1 locs1 q1 _ q3 => kk H1 locs1 _ ⟨q1, g1, q3⟩ g2 ?_ ?_)
  · rw [zel_of (va_up_self _ _ _)]
    simp [upd]
  · intro b j hbj
    by_cases hba : b = a
    · subst hba
      have hj : j ≠ i.toNatClampNeg := hbj.resolve_left (fun q => q rfl)
      rw [zel_of (va_up_self _ _ _), zel_of hF]
      simp [upd, hj]
    · unfold zel
      rw [va_up_ne F _ hba]
theorem zt_aalde (Z : zC p m c cc nL s args Ts own D k L) (h : zH D k Γ L s F H locs) (ha : Γ a = some t) {κ t1 : Nat} (hq : 100 ≤ t ∧ zas t = (κ, n, (t1 : Int), hi)) (hκ : κ = 3 ∨ κ = 4) (bi : zB b0 b1 i) (hb : 0 ≤ b0 ∧ b1 < n) (hdg : decode cc pc = .ok (.aaload, 1))
    (kk : ∀ b : Nat, zre F a i.toNatClampNeg = some b → Γ b = some t1 → W p l e R s m args below meth c H locs cells slots Q (F0 m (pc + 1) ls (.ref b :: rest))) : W p l e R s m args below meth c H locs cells slots Q (F0 m pc ls (.int i :: .ref a :: rest)) := by
  obtain ⟨⟨hx, hbb, hml, hown, hts⟩, hK, hLn, hE⟩ := Z
  obtain ⟨hP, hI, hS⟩ := h
  obtain ⟨hL, -, hA⟩ := hI a t ha
  have := hA hq.1
  unfold zAr at this
  rw [hq.2] at this
  obtain ⟨j, hj⟩ := va_pl_get (X := []) (f := F) hL
  rcases hκ with rfl | rfl
  · obtain ⟨f, hF, hall⟩ := this
    rw [hF] at hj
    obtain ⟨b, hb1, hb2⟩ := hall _ (z_clamp bi hb)
    refine va_aldq (ws := va_pl L F) hx hbb hK hP j 3 hj rfl (z_idx bi hb) hdg ?_
    rw [hb1]
    exact kk b (by unfold zre; rw [hF]; exact hb1) hb2
  · obtain ⟨f, hF, hall⟩ := this
    rw [hF] at hj
    obtain ⟨b, hb1, hb2⟩ := hall _ (z_clamp bi hb)
    refine va_aldq (ws := va_pl L F) hx hbb hK hP j 4 hj rfl (z_idx bi hb) hdg ?_
    rw [hb1]
    exact kk b (by unfold zre; rw [hF]; exact hb1) hb2
end
theorem z_cs {x y : Int32} (h0 : 0 ≤ x.toInt) (h : y.toInt = x.toInt + 1) : y.toNatClampNeg = x.toNatClampNeg + 1 := by
  rw [Int32.toNatClampNeg, Int32.toNatClampNeg]
  omega
theorem z_cl {x : Int32} (h0 : 0 ≤ x.toInt) : (x.toNatClampNeg : Int) = x.toInt := by
  rw [Int32.toNatClampNeg]
  omega
theorem z_learnl {D : va_G} {k : Nat → ClassId} {Γ : Nat → Option Nat} {L : List Nat} {s : State} {F : Nat → va_E} {H : Heap} {locs : List Loc} {a t j : Nat} {lo hi : Int} (h : zH D k Γ L s F H locs) (ha : Γ a = some t) (ht : t < 100) (hq : (zsp t)[j]? = some (1, lo, hi)) : ∃ x : Int64, zfld F a j = .long x := by
  obtain ⟨hP, hI, hS⟩ := h
  obtain ⟨hL, hO, -⟩ := hI a t ha
  obtain ⟨fs, hF, hlen, hall⟩ := hO ht
  exact hall j _ hq
