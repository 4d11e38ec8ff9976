/-- a number field's value, without a step -/
theorem z_learn {D : va_G} {k : Nat → ClassId} {Γ : Nat → Option Nat} {L : List Nat} {s : State} {F : Nat → va_E} {H : Heap} {locs : List Loc} {a t j : Nat} {lo hi : Int} (h : zH D k Γ L s F H locs) (ha : Γ a = some t) (ht : t < 100) (hq : (zsp t)[j]? = some (0, lo, hi)) : ∃ x : Int32, zfld F a j = .int x ∧ zB lo hi x := by
  obtain ⟨hP, hI, hS⟩ := h
  obtain ⟨hL, hO, -⟩ := hI a t ha
  obtain ⟨fs, hF, hlen, hall⟩ := hO ht
  exact hall j _ hq
theorem z_n0 {x : Int32} (h : x.toInt ≠ 0) : ¬ x = 0 := fun q => h (by rw [q]; decide)
theorem z_not0 {a b : Int} {x : Int32} (h : zB a b x) (h1 : 0 < a ∨ b < 0) : ¬ x = 0 := fun q => by
  have e0 : x.toInt = 0 := by rw [q]; decide
  have := h.1
  have := h.2
  omega
/-- what an array of numbers holds -/
def zel (F : Nat → va_E) (a n : Nat) : Int32 := match F a with
  | .inl (_, _, .inl f) => f n
  | _ => 0
theorem zel_of {F : Nat → va_E} {a n n0 : Nat} {c : ClassId} {f : Nat → Int32} (h : F a = .inl (c, n0, .inl f)) : zel F a n = f n := by
  unfold zel
  rw [h]
theorem zFr.el {Γ : Nat → Option Nat} {M : List Nat} {F F1 : Nat → va_E} (h : zFr Γ M F F1) {a t n : Nat} (ha : Γ a = some t) (hj : 100 ≤ t ∧ 100 * t ∉ M) {v : Int32} (hv : zel F a n = v) : zel F1 a n = v := by
  have e := (h.1 a t ha).2 hj.1 hj.2
  unfold zel at hv ⊢
  rw [e]
  exact hv
section
variable {p : Program} {l : Launch} {e : Env} {R : Room} {s : State} {m : MethodId} {args : Array Value} {below : List Frame} {meth : Method} {c : Code} {H : Heap} {locs : List Loc} {cells slots : Nat} {Q : State → Prop}
variable {cc : ByteArray} {pc nL : Nat} {ls : Array Slot} {rest st0 : List Value} {D : va_G} {k : Nat → ClassId} {Γ : Nat → Option Nat} {L : List Nat} {F : Nat → va_E} {Ts : List Cond} {own : String} {t a n : Nat} {lo hi : Int} {i : Int32} {b0 b1 : Int}
theorem zt_ialde (Z : zC p m c cc nL s args Ts own D k L) (h : zH D k Γ L s F H locs) (ha : Γ a = some t) (hq : 100 ≤ t ∧ zas t = (1, n, lo, hi)) (bi : zB b0 b1 i) (hb : 0 ≤ b0 ∧ b1 < n) (hdg : decode cc pc = .ok (.iaload, 1))
    (kk : ∀ x : Int32, zel F a i.toNatClampNeg = x → zB lo hi x → W p l e R s m args below meth c H locs cells slots Q (F0 m (pc + 1) ls (.int x :: rest))) : W p l e R s m args below meth c H locs cells slots Q (F0 m pc ls (.int i :: .ref a :: rest)) := by
  obtain ⟨⟨hx, hbb, hml, hown, hts⟩, hK, hLn, hE⟩ := Z
  obtain ⟨hP, hI, hS⟩ := h
  obtain ⟨hL, f, hF, hall⟩ := zt_ints hI ha hq (by decide)
  exact zf_iald hx hbb hK hP hL 1 hF rfl (z_idx bi hb) hdg (kk _ (zel_of hF) (hall _ (z_clamp bi hb)))
theorem zt_ialdk (Z : zC p m c cc nL s args Ts own D k L) (h : zH D k Γ L s F H locs) (ha : Γ a = some t) (hq : 100 ≤ t ∧ zas t = (1, n, lo, hi)) (bi : zB b0 b1 i) (hb : 0 ≤ b0 ∧ b1 < n) {x : Int32} (hx : zel F a i.toNatClampNeg = x) (hdg : decode cc pc = .ok (.iaload, 1))
    (kk : W p l e R s m args below meth c H locs cells slots Q (F0 m (pc + 1) ls (.int x :: rest))) : W p l e R s m args below meth c H locs cells slots Q (F0 m pc ls (.int i :: .ref a :: rest)) := by
  refine zt_ialde Z h ha hq bi hb hdg (fun y hy _ => ?_)
  rw [← hy, hx]
  exact kk
theorem zt_iaste (Z : zC p m c cc nL s args Ts own D k L) (h : zH D k Γ L s F H locs) (ha : Γ a = some t) (hq : 100 ≤ t ∧ zas t = (1, n, lo, hi)) (bi : zB b0 b1 i) (hb : 0 ≤ b0 ∧ b1 < n) {x : Int32} (bx : zB lo hi x) (hdg : decode cc pc = .ok (.iastore, 1))
    (kk : ∀ (H1 : Heap) (locs1 : List Loc) (F1 : Nat → va_E), zH D k Γ L s F1 H1 locs1 → zFr Γ [100 * t] F F1 → zel F1 a i.toNatClampNeg = x → (∀ b j : Nat, (b ≠ a ∨ j ≠ i.toNatClampNeg) → zel F1 b j = zel F b j) → W p l e R s m args below meth c H1 locs1 cells slots Q (F0 m (pc + 1) ls rest)) : W p l e R s m args below meth c H locs cells slots Q (F0 m pc ls (.int x :: .int i :: .ref a :: rest)) := by
  obtain ⟨⟨hx, hbb, hml, hown, hts⟩, hK, hLn, hE⟩ := Z
  obtain ⟨hP, hI, hS⟩ := h
  obtain ⟨hL, f, hF, hall⟩ := zt_ints hI ha hq (by decide)
  obtain ⟨g1, g2⟩ := zA_put hI ha hq.1 (e := .inl (k 1, n, .inl (upd f i.toNatClampNeg x))) (fun F' hF' => by unfold zAr; rw [hq.2]; exact ⟨_, hF', z_upd hall bx⟩) (fun x q => by cases q) (fun x q => by rw [hF] at q; cases q)
  refine zf_iast hx hbb hK hP (zD hLn) hS hL 1 hF rfl (z_idx bi hb) hdg (fun H1 locs1 q1 _ q3 => kk H1 locs1 _ ⟨q1, g1, q3⟩ g2 ?_ ?_)
  · rw [zel_of (va_up_self _ _ _)]
    simp [upd]
  · intro b j hbj
    by_cases hba : b = a
    · subst hba
      have hj : j ≠ i.toNatClampNeg := hbj.resolve_left (fun q => q rfl)
      rw [zel_of (va_up_self _ _ _), zel_of hF]
      simp [upd, hj]
    · unfold zel
      rw [va_up_ne F _ hba]
end
