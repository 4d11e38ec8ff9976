/-! The reference's reader, beside the steps. -/
def zD1 (F : Nat → va_E) (th : Nat) (B : Nat → Int32) (n : Nat) (σ : zSg) : Prop := ∃ i d, σ = .inl (i, d) ∧ zMt F th B n i
theorem zD1.fr {Γ : Nat → Option Nat} {M : List Nat} {F u : Nat → va_E} {th n : Nat} {B : Nat → Int32} {σ : zSg} (h : zD1 F th B n σ) (hf : zFr Γ M F u) (ht : Γ th = some 14) (hM : ∀ j ∈ [13, 14, 15, 16, 17, 18, 21], 1400 + j ∉ M) : zD1 u th B n σ := by
  obtain ⟨i, d, e, h1⟩ := h
  exact ⟨i, d, e, h1.fr hf ht hM⟩
theorem zD1.map {F : Nat → va_E} {th n : Nat} {B : Nat → Int32} {σ : zSg} {f : Nat → zDat → zDat} (h : zD1 F th B n σ) : zD1 F th B n (zmap f σ) := by
  obtain ⟨i, d, rfl, h1⟩ := h
  exact ⟨i, f i d, rfl, h1⟩
/-- what the fields say of the kind -/
theorem zD1.mk {F : Nat → va_E} {th n : Nat} {B : Nat → Int32} {σ : zSg} (h : zD1 F th B n σ) {so mk le : Int32} {wd : Int64} (e2 : zfld F th 14 = .int so) (e4 : zfld F th 16 = .int mk) (e5 : zfld F th 18 = .int le) (e6 : zfld F th 21 = .long wd) : ∃ W, zMk so.toInt mk.toInt le.toInt wd.toInt (zkd (zTo B n) 0 σ) W := by
  obtain ⟨i, d, rfl, ⟨a, so', pl, mk', le', wd', -, k2, -, k4, k5, k6, -, -, r⟩, -⟩ := h
  cases z_vi e2 k2
  cases z_vi e4 k4
  cases z_vi e5 k5
  cases z_vl e6 k6
  exact ⟨_, r⟩
theorem zD1.wd {F : Nat → va_E} {th n : Nat} {B : Nat → Int32} {σ : zSg} (h : zD1 F th B n σ) {wd : Int64} (e6 : zfld F th 21 = .long wd) (hk : zkd (zTo B n) 0 σ = 3 ∨ zkd (zTo B n) 0 σ = 4) : ∀ i d, σ = .inl (i, d) → wd.toInt = (zTo B n).2.2 i := fun i d e => by
  obtain ⟨i', d', e', ⟨a, so', pl, mk', le', wd', -, k2, -, k4, k5, k6, -, -, r⟩, -⟩ := h
  cases z_vl e6 k6
  cases e'.symm.trans e
  subst e
  have hk : (zTo B n).1 i = 3 ∨ (zTo B n).1 i = 4 := hk
  rcases r with ⟨-, r⟩ | ⟨-, r⟩ | ⟨-, r⟩ | ⟨-, -, r, -⟩ | ⟨-, r, -⟩
  · omega
  · omega
  · omega
  · omega
  · exact r
theorem zD1.le {F : Nat → va_E} {th n : Nat} {B : Nat → Int32} {σ : zSg} (h : zD1 F th B n σ) {le : Int32} {wd : Int64} (e5 : zfld F th 18 = .int le) (e6 : zfld F th 21 = .long wd) (hk : zkd (zTo B n) 0 σ = 4) : le.toInt = zsz wd.toInt := by
  obtain ⟨i, d, e, ⟨a, so', pl, mk', le', wd', -, k2, -, k4, k5, k6, -, -, r⟩, -⟩ := h
  cases z_vi e5 k5
  cases z_vl e6 k6
  subst e
  have hk : (zTo B n).1 i = 4 := hk
  rcases r with ⟨-, r⟩ | ⟨-, r⟩ | ⟨-, r⟩ | ⟨-, -, r, -⟩ | ⟨-, r, r2, -⟩
  · omega
  · omega
  · omega
  · omega
  · rw [r]
    exact r2
theorem zD1.nu {F : Nat → va_E} {th n : Nat} {B : Nat → Int32} {σ : zSg} (h : zD1 F th B n σ) {nu : Int32} (e6 : zfld F th 17 = .int nu) (hk : zkd (zTo B n) 0 σ = 2) : ∀ i d, σ = .inl (i, d) → nu.toInt = zvl B n i := fun i d e => by
  obtain ⟨i', d', e', ⟨a, so', pl, mk', le', wd', -, k2, -, k4, k5, k6, -, -, r⟩, so, nu', q1, q2, q3⟩ := h
  cases z_vi e6 q2
  cases z_vi k2 q1
  cases e'.symm.trans e
  subst e
  have hk : (zTo B n).1 i = 2 := hk
  refine q3 ?_
  rcases r with ⟨-, r⟩ | ⟨-, r⟩ | ⟨r, -⟩ | ⟨-, -, r, -⟩ | ⟨-, -, -, h1 | ⟨-, h1⟩⟩
  · omega
  · omega
  · exact r
  · omega
  · omega
  · rcases h1 with h1 | h1 | h1 | h1 | h1 | h1 | ⟨-, -, -, -, -, -, h1⟩ <;> omega
theorem zD1.at {F : Nat → va_E} {th n : Nat} {B : Nat → Int32} {σ : zSg} (h : zD1 F th B n σ) {a : Int32} (e : zfld F th 13 = .int a) : ∃ i d, σ = .inl (i, d) ∧ zend (zBl B n) n a.toInt = zpo B n (i + 1) := by
  obtain ⟨i, d, e1, ⟨a', so', pl, mk', le', wd', k1, k2, -, k4, k5, k6, r1, -, r⟩, -⟩ := h
  cases z_vi e k1
  exact ⟨i, d, e1, by rw [r1]; rfl⟩
theorem zRc.flr {T : zTS} {σ σ1 : zSg} {Xs Ys : List zSy} {k : Int} (h : zRc T σ Xs (zfl k σ1) Ys) (hi : ∃ i d, σ1 = .inl (i, d)) : zRc T σ Xs (.inr k) [] := by
  obtain ⟨i, d, rfl⟩ := hi
  exact h
theorem zD1.inl {F : Nat → va_E} {th n : Nat} {B : Nat → Int32} {σ : zSg} (h : zD1 F th B n σ) : ∃ i d, σ = .inl (i, d) := by
  obtain ⟨i, d, e, -⟩ := h
  exact ⟨i, d, e⟩
/-- what an array of longs holds -/
def zll (F : Nat → va_E) (a n : Nat) : Int64 := match F a with
  | .inl (_, _, .inr (.inl f)) => f n
  | _ => 0
def zal (F : Nat → va_E) (a j : Nat) : Nat → Int64 := match zfld F a j with
  | .ref b => zll F b
  | _ => fun _ => 0
theorem zal_eq {F : Nat → va_E} {a j b : Nat} (h : zfld F a j = .ref b) : zal F a j = zll F b := by
  unfold zal
  rw [h]
theorem zSA.al {Γ : Nat → Option Nat} {M : List Nat} {F F1 : Nat → va_E} {sp : Nat} (h : zSA Γ F sp) (hf : zFr Γ M F F1) (j : Nat) (hj : 4 ≤ j ∧ j < 30 ∧ 1100 + j ∉ M ∧ 100 * (120 + j) ∉ M) : zal F1 sp j = zal F sp j := by
  obtain ⟨b, hb, hg⟩ := h.2 j hj.1 hj.2.1
  rw [zal_eq hb, zal_eq (hf.f h.1 j ⟨by decide, hj.2.2.1⟩ hb)]
  have e := (hf.1 b (120 + j) hg).2 (by omega) hj.2.2.2
  funext n
  unfold zll
  rw [e]
section
variable {p : Program} {l : Launch} {e : Env} {R : Room} {s : State} {m : MethodId} {args : Array Value} {below : List Frame} {meth : Method} {c : Code} {H : Heap} {locs : List Loc} {cells slots : Nat} {Q : State → Prop}
variable {cc : ByteArray} {pc nL : Nat} {ls : Array Slot} {rest st0 : List Value} {D : va_G} {k : Nat → ClassId} {Γ : Nat → Option Nat} {L : List Nat} {F : Nat → va_E} {Ts : List Cond} {own : String} {t a n : Nat} {lo hi : Int} {i : Int32} {b0 b1 : Int}
theorem zt_lalde (Z : zC p m c cc nL s args Ts own D k L) (h : zH D k Γ L s F H locs) (ha : Γ a = some t) (hq : 100 ≤ t ∧ zas t = (2, n, lo, hi)) (bi : zB b0 b1 i) (hb : 0 ≤ b0 ∧ b1 < n) (hdg : decode cc pc = .ok (.laload, 1))
    (kk : ∀ x : Int64, zll F a i.toNatClampNeg = x → W p l e R s m args below meth c H locs cells slots Q (F0 m (pc + 1) ls (.long x :: rest))) : W p l e R s m args below meth c H locs cells slots Q (F0 m pc ls (.int i :: .ref a :: rest)) := by
  obtain ⟨⟨hx, hbb, hml, hown, hts⟩, hK, hLn, hE⟩ := Z
  obtain ⟨hP, hI, hS⟩ := h
  obtain ⟨hL, -, hA⟩ := hI a t ha
  have := hA hq.1
  unfold zAr at this
  rw [hq.2] at this
  obtain ⟨f, hF⟩ := this
  obtain ⟨j, hj⟩ := va_pl_get (X := []) (f := F) hL
  rw [hF] at hj
  exact va_lald (ws := va_pl L F) hx hbb hK hP j 2 hj rfl (z_idx bi hb) hdg (kk _ (by unfold zll; rw [hF]))
theorem zt_laste (Z : zC p m c cc nL s args Ts own D k L) (h : zH D k Γ L s F H locs) (ha : Γ a = some t) (hq : 100 ≤ t ∧ zas t = (2, n, lo, hi)) (bi : zB b0 b1 i) (hb : 0 ≤ b0 ∧ b1 < n) {x : Int64} (hdg : decode cc pc = .ok (.lastore, 1))
    (kk : ∀ (H1 : Heap) (locs1 : List Loc) (F1 : Nat → va_E), zH D k Γ L s F1 H1 locs1 → zFr Γ [100 * t] F F1 → zll F1 a i.toNatClampNeg = x → (∀ b j : Nat, (b ≠ a ∨ j ≠ i.toNatClampNeg) → zll F1 b j = zll F b j) → W p l e R s m args below meth c H1 locs1 cells slots Q (F0 m (pc + 1) ls rest)) : W p l e R s m args below meth c H locs cells slots Q (F0 m pc ls (.long x :: .int i :: .ref a :: rest)) := by
  obtain ⟨⟨hx, hbb, hml, hown, hts⟩, hK, hLn, hE⟩ := Z
  obtain ⟨hP, hI, hS⟩ := h
  obtain ⟨hL, -, hA⟩ := hI a t ha
  have := hA hq.1
  unfold zAr at this
  rw [hq.2] at this
  obtain ⟨f, hF⟩ := this
  obtain ⟨j, hj⟩ := va_pl_get (X := []) (f := F) hL
  have hD9 : va_D (zA L s.heap.size) (va_pl L F) := zD hLn
  have he := va_pl_set (X := []) (e := .inl (k 2, n, .inr (.inl (vp_updL f i.toNatClampNeg x)))) hD9 hL hj
  rw [hF] at hj
  rw [List.nil_append, List.nil_append] at he
  obtain ⟨g1, g2⟩ := zA_put hI ha hq.1 (e := .inl (k 2, n, .inr (.inl (vp_updL f i.toNatClampNeg x)))) (fun F' hF' => by unfold zAr; rw [hq.2]; exact ⟨_, hF'⟩) (fun x q => by cases q) (fun x q => by rw [hF] at q; cases q)
  refine va_last (ws := va_pl L F) hx hbb hK hP hD9 hS j 2 hj rfl (z_idx bi hb) hdg (fun H1 locs1 q1 _ q3 => kk H1 locs1 _ ⟨by rw [← he]; exact q1, g1, q3⟩ g2 ?_ ?_)
  · unfold zll
    rw [va_up_self]
    simp [vp_updL]
  · intro b j hbj
    by_cases hba : b = a
    · subst hba
      have hj : j ≠ i.toNatClampNeg := hbj.resolve_left (fun q => q rfl)
      unfold zll
      rw [va_up_self, hF]
      simp [vp_updL, hj]
    · unfold zll
      rw [va_up_ne F _ hba]
end
theorem zal_st {F F1 : Nat → va_E} {a j b i : Nat} {x : Int64} (h1 : zfld F a j = .ref b) (h2 : zfld F1 a j = .ref b) (e : zll F1 b i = x) (g : ∀ b' j' : Nat, (b' ≠ b ∨ j' ≠ i) → zll F1 b' j' = zll F b' j') : zal F1 a j i = x ∧ ∀ n, n ≠ i → zal F1 a j n = zal F a j n := by
  rw [zal_eq h1, zal_eq h2]
  exact ⟨e, fun n hn => g b n (Or.inr hn)⟩
