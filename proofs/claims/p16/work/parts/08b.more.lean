/-! Rows that the typed walks use: fields by kind, starts, numbers. -/
theorem zBc (c : Int32) (v : Int) (h : c.toInt = v) : zB v v c := ⟨by omega, by omega⟩
theorem zV.i {Γ : Nat → Option Nat} {lo hi : Int} {x : Int32} (h : zB lo hi x) : zV Γ (0, lo, hi) (.int x) := ⟨x, rfl, h⟩
theorem zV.l {Γ : Nat → Option Nat} {lo hi : Int} {x : Int64} : zV Γ (1, lo, hi) (.long x) := ⟨x, rfl⟩
theorem zV.r {Γ : Nat → Option Nat} {lo hi : Int} {b t : Nat} (h : Γ b = some t) (ht : lo.toNat = t) : zV Γ (2, lo, hi) (.ref b) := ⟨b, rfl, by rw [ht]; exact h⟩
theorem zV.rn {Γ : Nat → Option Nat} {lo hi : Int} {b t : Nat} (h : Γ b = some t) (ht : lo.toNat = t) : zV Γ (3, lo, hi) (.ref b) := Or.inr ⟨b, rfl, by rw [ht]; exact h⟩
theorem zV.n {Γ : Nat → Option Nat} {lo hi : Int} : zV Γ (3, lo, hi) .null := Or.inl rfl
theorem z_leR {n a b : Nat} (h : n = b) (h1 : a ≤ b) : a ≤ n := by omega
section
variable {p : Program} {l : Launch} {e : Env} {R : Room} {s : State} {m : MethodId} {args : Array Value} {below : List Frame} {meth : Method} {c : Code} {H : Heap} {locs : List Loc} {cells slots : Nat} {Q : State → Prop} {g : JFrame}
variable {cc : ByteArray} {pc nL : Nat} {ls : Array Slot} {rest st0 : List Value} {D : va_G} {k : Nat → ClassId} {Γ : Nat → Option Nat} {L : List Nat} {F : Nat → va_E} {Ts : List Cond} {own ref C : String} {T : u_T} {N t a index : Nat} {lo hi : Int}
theorem z_start (kk : ∀ (R' : Room) (Q' : State → Prop), R'.frames = R.frames → R'.locals = R.locals → Q' = Q → W p l e R' s m args below meth c H locs cells slots Q' g) : W p l e R s m args below meth c H locs cells slots Q g := kk R Q rfl rfl rfl
theorem zt_geti (Z : zC p m c cc nL s args Ts own D k L) (h : zH D k Γ L s F H locs) (ha : Γ a = some t) (hin : ∀ w ∈ u_ws C T N, w ∈ Ts) (hc : z_Cl[t]? = some (C, T, N)) (j : Nat) (hq : (zsp t)[j]? = some (0, lo, hi)) (hn : t < 100 ∧ (zsp t).length = N) (hlink : Cond.fieldLink own index ref (T j).2.1 (T j).2.2.1 ∈ Ts) (hsame : ∀ x, s.fieldFound? (T j).1 (T j).2.1 (T j).2.2.1 = some x → s.fieldFound? ref (T j).2.1 (T j).2.2.1 = some x) (hdg : decode cc pc = .ok (.getfield index, 3))
    (kk : ∀ x : Int32, zfld F a j = .int x → zB lo hi x → W p l e R s m args below meth c H locs cells slots Q (F0 m (pc + 3) ls (.int x :: rest))) : W p l e R s m args below meth c H locs cells slots Q (F0 m pc ls (.ref a :: rest)) :=
  zt_get Z h ha hin hc j hq hn hlink hsame hdg (fun v hv hz => by
    obtain ⟨x, rfl, bx⟩ := hz
    exact kk x hv bx)
theorem zt_getl (Z : zC p m c cc nL s args Ts own D k L) (h : zH D k Γ L s F H locs) (ha : Γ a = some t) (hin : ∀ w ∈ u_ws C T N, w ∈ Ts) (hc : z_Cl[t]? = some (C, T, N)) (j : Nat) (hq : (zsp t)[j]? = some (1, lo, hi)) (hn : t < 100 ∧ (zsp t).length = N) (hlink : Cond.fieldLink own index ref (T j).2.1 (T j).2.2.1 ∈ Ts) (hsame : ∀ x, s.fieldFound? (T j).1 (T j).2.1 (T j).2.2.1 = some x → s.fieldFound? ref (T j).2.1 (T j).2.2.1 = some x) (hdg : decode cc pc = .ok (.getfield index, 3))
    (kk : ∀ x : Int64, zfld F a j = .long x → W p l e R s m args below meth c H locs cells slots Q (F0 m (pc + 3) ls (.long x :: rest))) : W p l e R s m args below meth c H locs cells slots Q (F0 m pc ls (.ref a :: rest)) :=
  zt_get Z h ha hin hc j hq hn hlink hsame hdg (fun v hv hz => by
    obtain ⟨x, rfl⟩ := hz
    exact kk x hv)
theorem zt_getr {t1 : Nat} (Z : zC p m c cc nL s args Ts own D k L) (h : zH D k Γ L s F H locs) (ha : Γ a = some t) (hin : ∀ w ∈ u_ws C T N, w ∈ Ts) (hc : z_Cl[t]? = some (C, T, N)) (j : Nat) (hq : (zsp t)[j]? = some (2, (t1 : Int), hi)) (hn : t < 100 ∧ (zsp t).length = N) (hlink : Cond.fieldLink own index ref (T j).2.1 (T j).2.2.1 ∈ Ts) (hsame : ∀ x, s.fieldFound? (T j).1 (T j).2.1 (T j).2.2.1 = some x → s.fieldFound? ref (T j).2.1 (T j).2.2.1 = some x) (hdg : decode cc pc = .ok (.getfield index, 3))
    (kk : ∀ b : Nat, zfld F a j = .ref b → Γ b = some t1 → W p l e R s m args below meth c H locs cells slots Q (F0 m (pc + 3) ls (.ref b :: rest))) : W p l e R s m args below meth c H locs cells slots Q (F0 m pc ls (.ref a :: rest)) :=
  zt_get Z h ha hin hc j hq hn hlink hsame hdg (fun v hv hz => by
    obtain ⟨b, rfl, hb⟩ := hz
    exact kk b hv hb)
theorem zt_getn {t1 : Nat} (Z : zC p m c cc nL s args Ts own D k L) (h : zH D k Γ L s F H locs) (ha : Γ a = some t) (hin : ∀ w ∈ u_ws C T N, w ∈ Ts) (hc : z_Cl[t]? = some (C, T, N)) (j : Nat) (hq : (zsp t)[j]? = some (3, (t1 : Int), hi)) (hn : t < 100 ∧ (zsp t).length = N) (hlink : Cond.fieldLink own index ref (T j).2.1 (T j).2.2.1 ∈ Ts) (hsame : ∀ x, s.fieldFound? (T j).1 (T j).2.1 (T j).2.2.1 = some x → s.fieldFound? ref (T j).2.1 (T j).2.2.1 = some x) (hdg : decode cc pc = .ok (.getfield index, 3))
    (kn : zfld F a j = .null → W p l e R s m args below meth c H locs cells slots Q (F0 m (pc + 3) ls (.null :: rest))) (kk : ∀ b : Nat, zfld F a j = .ref b → Γ b = some t1 → W p l e R s m args below meth c H locs cells slots Q (F0 m (pc + 3) ls (.ref b :: rest))) : W p l e R s m args below meth c H locs cells slots Q (F0 m pc ls (.ref a :: rest)) :=
  zt_get Z h ha hin hc j hq hn hlink hsame hdg (fun v hv hz => by
    rcases hz with rfl | ⟨b, rfl, hb⟩
    · exact kn hv
    · exact kk b hv hb)
theorem zi_max {x y : Int32} {a b c' d : Int} (bx : zB a b x) (by_ : zB c' d y) (h : (lo ≤ a ∨ lo ≤ c') ∧ b ≤ hi ∧ d ≤ hi) (kk : ∀ z : Int32, zB lo hi z → x.toInt ≤ z.toInt ∧ y.toInt ≤ z.toInt ∧ (z.toInt = x.toInt ∨ z.toInt = y.toInt) → W p l e R s m args below meth c H locs cells slots Q (F0 m pc ls (.int z :: rest))) : W p l e R s m args below meth c H locs cells slots Q (F0 m pc ls (.int (if x < y then y else x) :: rest)) := by
  have h1 := bx.1; have h2 := bx.2; have h3 := by_.1; have h4 := by_.2
  by_cases q : x < y
  · have q' := z_lt q
    rw [if_pos q]
    exact kk y ⟨by omega, by omega⟩ ⟨by omega, by omega, Or.inr rfl⟩
  · have q' := z_nlt q
    rw [if_neg q]
    exact kk x ⟨by omega, by omega⟩ ⟨by omega, by omega, Or.inl rfl⟩
theorem zi_min {x y : Int32} {a b c' d : Int} (bx : zB a b x) (by_ : zB c' d y) (h : (b ≤ hi ∨ d ≤ hi) ∧ lo ≤ a ∧ lo ≤ c') (kk : ∀ z : Int32, zB lo hi z → z.toInt ≤ x.toInt ∧ z.toInt ≤ y.toInt ∧ (z.toInt = x.toInt ∨ z.toInt = y.toInt) → W p l e R s m args below meth c H locs cells slots Q (F0 m pc ls (.int z :: rest))) : W p l e R s m args below meth c H locs cells slots Q (F0 m pc ls (.int (if y < x then y else x) :: rest)) := by
  have h1 := bx.1; have h2 := bx.2; have h3 := by_.1; have h4 := by_.2
  by_cases q : y < x
  · have q' := z_lt q
    rw [if_pos q]
    exact kk y ⟨by omega, by omega⟩ ⟨by omega, by omega, Or.inr rfl⟩
  · have q' := z_nlt q
    rw [if_neg q]
    exact kk x ⟨by omega, by omega⟩ ⟨by omega, by omega, Or.inl rfl⟩
theorem z_nat {n : Nat} {x : Int32} (h : zB 0 n x) : ∃ j : Nat, j ≤ n ∧ x = Int32.ofNat j := by
  have h1 := h.1
  have h2 := h.2
  refine ⟨x.toInt.toNat, by omega, ?_⟩
  apply Int32.toInt_inj.mp
  have h3 := Int32.toInt_lt x
  rw [Int32.toInt_ofNat_of_lt (by omega)]
  omega
theorem z_shl1 : ∀ j : Nat, j < 13 → (1 : Int32) ≤ (1 : Int32) <<< (Int32.ofNat j &&& 31) ∧ (1 : Int32) <<< (Int32.ofNat j &&& 31) ≤ Int32.ofNat (2 ^ j) := by decide +kernel
theorem z_shl2 : ∀ n : Nat, n < 13 → ∀ j : Nat, j < 13 → j ≤ n → (Int32.ofNat (2 ^ j)).toInt ≤ (2 ^ n : Nat) := by decide +kernel
theorem zi_shl1 {x : Int32} {n : Nat} (bx : zB 0 n x) (h : n < 13) (hh : hi = (2 ^ n : Nat)) (kk : ∀ z : Int32, zB 1 hi z → W p l e R s m args below meth c H locs cells slots Q (F0 m pc ls (.int z :: rest))) : W p l e R s m args below meth c H locs cells slots Q (F0 m pc ls (.int ((1 : Int32) <<< (x &&& 31)) :: rest)) := by
  subst hh
  obtain ⟨j, hj, rfl⟩ := z_nat bx
  obtain ⟨h1, h2⟩ := z_shl1 j (by omega)
  have h3 := z_shl2 n h j (by omega) hj
  have e1 : (1 : Int32).toInt = 1 := by decide
  rw [Int32.le_iff_toInt_le, e1] at h1
  rw [Int32.le_iff_toInt_le] at h2
  exact kk _ ⟨h1, Int.le_trans h2 h3⟩
end
theorem z_inc {a b lo hi n : Int} {x : Int32} (bx : zB a b x) (h : -2147483648 ≤ n ∧ n ≤ 2147483647 ∧ -2147483648 ≤ a + n ∧ b + n ≤ 2147483647 ∧ lo ≤ a + n ∧ b + n ≤ hi) : ∃ z : Int32, x + Int32.ofInt n = z ∧ zB lo hi z ∧ z.toInt = x.toInt + n := by
  have e0 : (Int32.ofInt n).toInt = n := by
    rw [Int32.toInt_ofInt]
    exact z_bmod ⟨h.1, h.2.1⟩
  have e := zB.addE bx (⟨by omega, by omega⟩ : zB n n (Int32.ofInt n)) ⟨h.2.2.1, h.2.2.2.1⟩
  rw [e0] at e
  exact ⟨_, rfl, ⟨by rw [e]; have := bx.1; omega, by rw [e]; have := bx.2; omega⟩, e⟩
theorem z_fit8 {x : Int32} (h : zB (-128) 127 x) : fits .byte (.int x) = true := by
  have e : x = Int32.ofInt x.toInt := (Int32.ofInt_toInt x).symm
  have key : ∀ j : Nat, j < 256 → fits .byte (.int (Int32.ofInt ((j : Int) - 128))) = true := by decide +kernel
  have h1 := h.1
  have h2 := h.2
  have := key (x.toInt + 128).toNat (by omega)
  rw [e]
  have e2 : (((x.toInt + 128).toNat : Nat) : Int) - 128 = x.toInt := by omega
  rw [e2] at this
  exact this
theorem z_nev {x c : Int32} {v : Int} (h : ¬ x = c) (hv : c.toInt = v) : x.toInt ≠ v := fun q => h (Int32.toInt_inj.mp (q.trans hv.symm))
theorem z_same {F : Nat → va_E} {a j : Nat} {x y : Int32} (hx : zfld F a j = .int x) (hy : zfld F a j = .int y) : x = y := by
  have := hx.symm.trans hy
  exact Value.int.inj this
section
variable {p : Program} {l : Launch} {e : Env} {R : Room} {s : State} {m : MethodId} {args : Array Value} {below : List Frame} {meth : Method} {c : Code} {H : Heap} {locs : List Loc} {cells slots : Nat} {Q : State → Prop}
variable {cc : ByteArray} {pc nL : Nat} {ls : Array Slot} {rest : List Value} {D : va_G} {k : Nat → ClassId} {Γ : Nat → Option Nat} {L : List Nat} {F : Nat → va_E} {Ts : List Cond} {own : String} {index t a a0 nn : Nat}
def zel0 (F : Nat → va_E) (a n : Nat) : Int32 := match F a with
  | .inl (_, _, .inl f) => f n
  | _ => 0
theorem zt_copy {t0 : Nat} (Z : zC p m c cc nL s args Ts own D k L) (h : zH D k Γ L s F H locs) (h0 : Γ a0 = some t0) (h1 : Γ a = some t) (hq0 : 100 ≤ t0 ∧ zas t0 = (0, nn, -128, 127)) (hq : 100 ≤ t ∧ zas t = (0, nn, -128, 127)) {n : Int32} (bn : zB 0 nn n) (hml : c.maxLocals = ls.size) (hlink : (Cond.methodLink own index arraycopyName).before args s = true) (hnat : (Cond.native arraycopyName).before args s = true) (hstat : (Cond.static arraycopyName).before args s = true) (hini : (Cond.initialized "java/lang/System").before args s = true)
    (hframes : 1 ≤ R.frames) (hlocals : (rest.map fun v => v.category).sum + (nativeFrameWords "java/lang/System" "arraycopy" 5 + 11) ≤ R.locals) (hdg : decode cc pc = .ok (.invokestatic index, 3))
    (kk : ∀ (H1 : Heap) (locs1 : List Loc) (F1 : Nat → va_E), zH D k Γ L s F1 H1 locs1 → zFr Γ [100 * t] F F1 → (∀ i, i < n.toNatClampNeg → zel0 F1 a i = zel0 F a0 i) → W p l e R s m args below meth c H1 locs1 cells slots Q (F0 m (pc + 3) ls rest)) : W p l e R s m args below meth c H locs cells slots Q (F0 m pc ls (.int n :: .int 0 :: .ref a :: .int 0 :: .ref a0 :: rest)) := by
  obtain ⟨⟨hx, hbb, hml', hown, hts⟩, hK, hLn, hE⟩ := Z
  obtain ⟨hP, hI, hS⟩ := h
  obtain ⟨hL0, f, hF0, hall0⟩ := zt_ints hI h0 hq0 (by decide)
  obtain ⟨hL, g, hF, hall⟩ := zt_ints hI h1 hq (by decide)
  obtain ⟨j0, hj0⟩ := va_pl_get (X := []) (f := F) hL0
  obtain ⟨j, hj⟩ := va_pl_get (X := []) (f := F) hL
  have hD9 : va_D (zA L s.heap.size) (va_pl L F) := zD hLn
  have hnn : n.toNatClampNeg ≤ nn := by rw [Int32.toNatClampNeg]; have := bn.2; omega
  have e0 : Int32.toNatClampNeg 0 = 0 := by decide
  have he := va_pl_set (X := []) (e := .inl (k 0, nn, .inl (va_cpy f g (Int32.toNatClampNeg 0) (Int32.toNatClampNeg 0) n.toNatClampNeg))) hD9 hL hj
  rw [hF0] at hj0
  rw [hF] at hj
  rw [List.nil_append, List.nil_append] at he
  obtain ⟨g1, g2⟩ := zA_put hI h1 hq.1 (e := .inl (k 0, nn, .inl (va_cpy f g (Int32.toNatClampNeg 0) (Int32.toNatClampNeg 0) n.toNatClampNeg))) (fun F' hF' => by
    unfold zAr; rw [hq.2]
    refine ⟨_, hF', fun i hi => ?_⟩
    have hi : i < nn := hi
    unfold va_cpy
    split
    · exact hall0 _ (by rw [e0]; omega)
    · exact hall i hi) (fun x q => by cases q) (fun x q => by rw [hF] at q; cases q)
  refine va_copyi (ws := va_pl L F) (ty := .byte) hx hbb hml hown hlink hnat hstat hini hK hP hD9 hS j0 j 0 0 hj0 hj rfl rfl rfl (by decide) (by decide) ?_ (by rw [e0]; omega) (by rw [e0]; omega) (fun i hi => ?_) hframes hlocals hdg (fun H1 locs1 q1 _ q3 => kk H1 locs1 _ ⟨by rw [← he]; exact q1, g1, q3⟩ g2 (fun i hi => by
    have e0 : Int32.toNatClampNeg 0 = 0 := by decide
    unfold zel0
    rw [va_up_self, hF0]
    show va_cpy f g (Int32.toNatClampNeg 0) (Int32.toNatClampNeg 0) n.toNatClampNeg i = f i
    unfold va_cpy
    rw [e0, if_pos ⟨Nat.zero_le _, by omega⟩]
    exact congrArg f (by omega)))
  · rw [Int32.lt_iff_toInt_lt]
    have e1 : (0 : Int32).toInt = 0 := by decide
    have := bn.1
    omega
  · have hb := hall0 (Int32.toNatClampNeg 0 + i) (by rw [e0]; omega)
    exact z_fit8 hb
end
