/-! A world as a set of addresses L and a function F that says what each holds: a field or a place is read and written at an address, nothing is cut out or joined. -/
section
variable {p : Program} {l : Launch} {e : Env} {R : Room} {s : State} {m : MethodId} {args : Array Value} {below : List Frame} {meth : Method} {c : Code} {H : Heap} {locs : List Loc} {cells slots : Nat} {Q : State → Prop}
variable {cc : ByteArray} {pc : Nat} {ls : Array Slot} {rest : List Value} {D : va_G} {cl : List vw_C} {A : Nat → Prop} {a : Nat} {tys : List (ClassId × FieldType)} {L : List Nat} {F : Nat → va_E} {H0 : Heap}
theorem zf_get (hexec : p.tables.exec = Jvm.exec) (hb : c.code = cc) {own ref C : String} {T : u_T} {N ci index : Nat} {Ts : List Cond} (hts : ∀ w ∈ Ts, w.before args s = true) (hin : ∀ w ∈ u_ws C T N, w ∈ Ts) (hown : s.vm.findClass own = some m.cls) (hK : va_K D cl tys s) (hP : va_P D cl (va_pl L F) H) (hm : a ∈ L) {fs : List Value} (hF : F a = .inr (ci, fs)) (hc : cl[ci]? = some (C, T, N)) (k : Nat) (hk : k < N) (hlink : (Cond.fieldLink own index ref (T k).2.1 (T k).2.2.1).before args s = true) (hsame : ∀ x, s.fieldFound? (T k).1 (T k).2.1 (T k).2.2.1 = some x → s.fieldFound? ref (T k).2.1 (T k).2.2.1 = some x) {v : Value} (hv : fs[k]? = some v) (hdg : decode cc pc = .ok (.getfield index, 3))
    (kk : W p l e R s m args below meth c H locs cells slots Q (F0 m (pc + 3) ls (v :: rest))) : W p l e R s m args below meth c H locs cells slots Q (F0 m pc ls (.ref a :: rest)) := by
  obtain ⟨j, hj⟩ := va_pl_get (X := []) (f := F) hm
  rw [hF] at hj
  exact va_get (ws := va_pl L F) hexec hb hts hin hown hK hP j hj hc k hk hlink hsame hv hdg kk
theorem zf_put (hexec : p.tables.exec = Jvm.exec) (hb : c.code = cc) {own ref C : String} {T : u_T} {N ci index : Nat} {Ts : List Cond} (hts : ∀ w ∈ Ts, w.before args s = true) (hin : ∀ w ∈ u_ws C T N, w ∈ Ts) (ty0 : Nat → FieldType) (hty : ∀ k, k < N → parseFieldDescriptor (T k).2.2.1 = some (ty0 k)) (hnm : ∀ a, a < N → ∀ b, b < N → a ≠ b → (T a).2.1 ≠ (T b).2.1) (hown : s.vm.findClass own = some m.cls) (hK : va_K D cl tys s) (hP : va_P D cl (va_pl L F) H) (hD : va_D A (va_pl L F)) (hS0 : va_S A H0 H locs) (hm : a ∈ L) {fs : List Value} (hF : F a = .inr (ci, fs)) (hc : cl[ci]? = some (C, T, N)) (k : Nat) (hk : k < N) (hlink : (Cond.fieldLink own index ref (T k).2.1 (T k).2.2.1).before args s = true) (hsame : ∀ x, s.fieldFound? (T k).1 (T k).2.1 (T k).2.2.1 = some x → s.fieldFound? ref (T k).2.1 (T k).2.2.1 = some x) (hfin : (T k).2.2.2 = false) {ty : FieldType} {v : Value} (hd : parseFieldDescriptor (T k).2.2.1 = some ty) (hn : narrow ty v = v) (hfit : fits ty v = true) (hl : k < fs.length)
    (hdg : decode cc pc = .ok (.putfield index, 3)) (kk : ∀ (H1 : Heap) (locs1 : List Loc), va_P D cl (va_pl L (va_up F a (.inr (ci, fs.set k v)))) H1 → va_D A (va_pl L (va_up F a (.inr (ci, fs.set k v)))) → va_S A H0 H1 locs1 → W p l e R s m args below meth c H1 locs1 cells slots Q (F0 m (pc + 3) ls rest)) : W p l e R s m args below meth c H locs cells slots Q (F0 m pc ls (v :: .ref a :: rest)) := by
  obtain ⟨j, hj⟩ := va_pl_get (X := []) (f := F) hm
  have he := va_pl_set (X := []) (e := .inr (ci, fs.set k v)) hD hm hj
  rw [hF] at hj
  rw [List.nil_append, List.nil_append] at he
  exact va_put (ws := va_pl L F) hexec hb hts hin ty0 hty hnm hown hK hP hD hS0 j hj hc k hk hlink hsame hfin hd hn hfit hl hdg (fun H1 locs1 g1 g2 g3 => kk H1 locs1 (by rw [← he]; exact g1) (by rw [← he]; exact g2) g3)
theorem zf_iald (hexec : p.tables.exec = Jvm.exec) (hb : c.code = cc) (hK : va_K D cl tys s) (hP : va_P D cl (va_pl L F) H) (hm : a ∈ L) (t0 : Nat) {cA : ClassId} {n : Nat} {f : Nat → Int32} (hF : F a = .inl (cA, n, .inl f)) (ht : tys[t0]? = some (cA, .int)) {i : Int32} (hin : vp_in i n) (hdg : decode cc pc = .ok (.iaload, 1))
    (kk : W p l e R s m args below meth c H locs cells slots Q (F0 m (pc + 1) ls (.int (f i.toNatClampNeg) :: rest))) : W p l e R s m args below meth c H locs cells slots Q (F0 m pc ls (.int i :: .ref a :: rest)) := by
  obtain ⟨j, hj⟩ := va_pl_get (X := []) (f := F) hm
  rw [hF] at hj
  exact va_iald (ws := va_pl L F) hexec hb hK hP j t0 hj ht hin hdg kk
theorem zf_bald (hexec : p.tables.exec = Jvm.exec) (hb : c.code = cc) (hK : va_K D cl tys s) (hP : va_P D cl (va_pl L F) H) (hm : a ∈ L) (t0 : Nat) {cA : ClassId} {n : Nat} {f : Nat → Int32} (hF : F a = .inl (cA, n, .inl f)) (ht : tys[t0]? = some (cA, .byte)) {i : Int32} (hin : vp_in i n) (hdg : decode cc pc = .ok (.baload, 1))
    (kk : W p l e R s m args below meth c H locs cells slots Q (F0 m (pc + 1) ls (.int (f i.toNatClampNeg) :: rest))) : W p l e R s m args below meth c H locs cells slots Q (F0 m pc ls (.int i :: .ref a :: rest)) := by
  obtain ⟨j, hj⟩ := va_pl_get (X := []) (f := F) hm
  rw [hF] at hj
  exact va_bald (ws := va_pl L F) hexec hb hK hP j t0 hj ht hin hdg kk
theorem zf_iast (hexec : p.tables.exec = Jvm.exec) (hb : c.code = cc) (hK : va_K D cl tys s) (hP : va_P D cl (va_pl L F) H) (hD : va_D A (va_pl L F)) (hS : va_S A H0 H locs) (hm : a ∈ L) (t0 : Nat) {cA : ClassId} {n : Nat} {f : Nat → Int32} (hF : F a = .inl (cA, n, .inl f)) (ht : tys[t0]? = some (cA, .int)) {i x : Int32} (hin : vp_in i n) (hdg : decode cc pc = .ok (.iastore, 1))
    (kk : ∀ (H1 : Heap) (locs1 : List Loc), va_P D cl (va_pl L (va_up F a (.inl (cA, n, .inl (upd f i.toNatClampNeg x))))) H1 → va_D A (va_pl L (va_up F a (.inl (cA, n, .inl (upd f i.toNatClampNeg x))))) → va_S A H0 H1 locs1 → W p l e R s m args below meth c H1 locs1 cells slots Q (F0 m (pc + 1) ls rest)) : W p l e R s m args below meth c H locs cells slots Q (F0 m pc ls (.int x :: .int i :: .ref a :: rest)) := by
  obtain ⟨j, hj⟩ := va_pl_get (X := []) (f := F) hm
  have he := va_pl_set (X := []) (e := .inl (cA, n, .inl (upd f i.toNatClampNeg x))) hD hm hj
  rw [hF] at hj
  rw [List.nil_append, List.nil_append] at he
  exact va_iast (ws := va_pl L F) hexec hb hK hP hD hS j t0 hj ht hin hdg (fun H1 locs1 g1 g2 g3 => kk H1 locs1 (by rw [← he]; exact g1) (by rw [← he]; exact g2) g3)
theorem zf_bast (hexec : p.tables.exec = Jvm.exec) (hb : c.code = cc) (hK : va_K D cl tys s) (hP : va_P D cl (va_pl L F) H) (hD : va_D A (va_pl L F)) (hS : va_S A H0 H locs) (hm : a ∈ L) (t0 : Nat) {cA : ClassId} {n : Nat} {f : Nat → Int32} (hF : F a = .inl (cA, n, .inl f)) (ht : tys[t0]? = some (cA, .byte)) {i x : Int32} (hin : vp_in i n) (hdg : decode cc pc = .ok (.bastore, 1))
    (kk : ∀ (H1 : Heap) (locs1 : List Loc), va_P D cl (va_pl L (va_up F a (.inl (cA, n, .inl (upd f i.toNatClampNeg (vp_nar .byte x)))))) H1 → va_D A (va_pl L (va_up F a (.inl (cA, n, .inl (upd f i.toNatClampNeg (vp_nar .byte x)))))) → va_S A H0 H1 locs1 → W p l e R s m args below meth c H1 locs1 cells slots Q (F0 m (pc + 1) ls rest)) : W p l e R s m args below meth c H locs cells slots Q (F0 m pc ls (.int x :: .int i :: .ref a :: rest)) := by
  obtain ⟨j, hj⟩ := va_pl_get (X := []) (f := F) hm
  have he := va_pl_set (X := []) (e := .inl (cA, n, .inl (upd f i.toNatClampNeg (vp_nar .byte x)))) hD hm hj
  rw [hF] at hj
  rw [List.nil_append, List.nil_append] at he
  exact va_bast (ws := va_pl L F) hexec hb hK hP hD hS j t0 hj ht hin hdg (fun H1 locs1 g1 g2 g3 => kk H1 locs1 (by rw [← he]; exact g1) (by rw [← he]; exact g2) g3)
theorem zf_alen (hexec : p.tables.exec = Jvm.exec) (hb : c.code = cc) (hK : va_K D cl tys s) (hP : va_P D cl (va_pl L F) H) (hm : a ∈ L) (t0 : Nat) {cA : ClassId} {x : vp_A} (hF : F a = .inl (cA, x)) {ty : FieldType} (ht : tys[t0]? = some (cA, ty)) {v : Int32} (hv : Int32.ofNat x.1 = v) (hdg : decode cc pc = .ok (.arraylength, 1))
    (kk : W p l e R s m args below meth c H locs cells slots Q (F0 m (pc + 1) ls (.int v :: rest))) : W p l e R s m args below meth c H locs cells slots Q (F0 m pc ls (.ref a :: rest)) := by
  obtain ⟨j, hj⟩ := va_pl_get (X := []) (f := F) hm
  rw [hF] at hj
  exact va_alen (ws := va_pl L F) hexec hb hK hP j t0 hj ht hv hdg kk
/-- the addresses that a method over L may change -/
theorem zf_A {sz q : Nat} : va_A (va_pl L F) sz q ↔ q ∈ L ∨ sz ≤ q := by
  constructor
  · rintro (⟨k, e, h⟩ | h)
    · have h9 := List.mem_of_getElem? h
      simp only [va_pl, List.mem_map, Prod.mk.injEq] at h9
      obtain ⟨b, hb, rfl, -⟩ := h9
      exact Or.inl hb
    · exact Or.inr h
  · rintro (h | h)
    · obtain ⟨j, hj⟩ := va_pl_get (X := []) (f := F) h
      exact Or.inl ⟨j, F q, hj⟩
    · exact Or.inr h
end
