/-! The rows that this claim's walks share: the worlds a contract speaks of, nest mates' words, athrow, a catch. -/
abbrev z_Cl : List vw_C := [(RX0, TX0, 3), (RX1, TX1, 4), (RX2, TX2, 9), (RX3, TX3, 3), (RX4, TX4, 4), (RX5, TX5, 19), (RX6, TX6, 6), (RX7, TX7, 12), (RX8, TX8, 6), (RX9, TX9, 5), (RX10, TX10, 14), (RX11, TX11, 30), (RX12, TX12, 10), (RX13, TX13, 8), (RX14, TX14, 40)]
/-- the words of nest mates that the walks use -/
def z_nests : List Cond := [.methodLinkNest RX6 38 yX4_init "LessonMaker", .methodLinkNest RX14 15 yX11_init "LessonMakerModel", .methodLinkNest RX14 39 yX12_init "LessonMakerModel",
  .fieldLinkNest RX14 168 "LessonMakerModel$Program" "functions" "I" "LessonMakerModel", .fieldLinkNest RX14 171 "LessonMakerModel$Program" "lines" "I" "LessonMakerModel", .fieldLinkNest RX14 174 "LessonMakerModel$Program" "items" "I" "LessonMakerModel",
  .fieldLinkNest RX14 82 "LessonMakerModel$Stop" "kind" "I" "LessonMakerModel", .fieldLinkNest RX14 85 "LessonMakerModel$Stop" "place" "I" "LessonMakerModel"]
/-- the words that 'throw new NoSuchElementException(text)' needs: the good ones, the others -/
def z_X : List Cond := (z_atS RX10 124).filter goodWord
def z_B : List Cond := [.declares (Bundle.initS "java/lang/RuntimeException"), .declares (Bundle.initS "java/lang/Exception"), .declares (Bundle.initS "java/lang/Throwable"), .castable "java/util/NoSuchElementException" "java/util/NoSuchElementException"]
theorem z_B_in : ∀ w ∈ (z_atS RX10 124).filter (fun w => !goodWord w), w ∈ z_B := by decide +kernel
theorem z_B_on : ∀ w ∈ z_B, w.onTables = true := by decide +kernel
theorem z_fl (l : Launch) (h : l.flags = flags0) : l.stackTraces = false := by
  unfold Launch.stackTraces
  rw [h]
  decide +kernel
def z_N (U : State) : Prop := (∀ w ∈ z_nests, va_Nw w U) ∧ va_AO "LessonMaker$Function" U ∧ va_AO "LessonMaker$Line" U ∧ (∃ a, vk_R RX14 152 "def" a U) ∧ (∃ a, vk_R RX10 122 "no such function" a U) ∧ (∃ a, vk_R RX10 206 "nothing such was said" a U) ∧ (∃ a, vk_R RX10 215 "nothing such was traced" a U) ∧ va_Nw (.castable RX13 RX13) U ∧ (∀ w ∈ z_B, va_Nw w U)
theorem z_N.warm {s U : State} (h : z_N s) (hW : s.WarmedH U.vm) : z_N U := by
  obtain ⟨h1, h2, h3, ⟨a4, h4⟩, ⟨a5, h5⟩, ⟨a6, h6⟩, ⟨a7, h7⟩, h8, h10⟩ := h
  refine ⟨fun w hw => ?_, va_AO.moved hW.alike h2, va_AO.moved hW.alike h3, ⟨a4, vk_R.warm hW h4⟩, ⟨a5, vk_R.warm hW h5⟩, ⟨a6, vk_R.warm hW h6⟩, ⟨a7, vk_R.warm hW h7⟩, va_Nw.warmC hW h8, fun w hw => ?_⟩
  rotate_left
  · have h9 := h10 w hw
    simp only [z_B, List.mem_cons, List.not_mem_nil, or_false] at hw
    rcases hw with rfl | rfl | rfl | rfl
    · exact va_Nw.warmD hW h9
    · exact va_Nw.warmD hW h9
    · exact va_Nw.warmD hW h9
    · exact va_Nw.warmC hW h9
  have h9 := h1 w hw
  simp only [z_nests, List.mem_cons, List.not_mem_nil, or_false] at hw
  rcases hw with rfl | rfl | rfl | rfl | rfl | rfl | rfl | rfl
  · exact va_Nw.warmM hW h9
  · exact va_Nw.warmM hW h9
  · exact va_Nw.warmM hW h9
  · exact va_Nw.warmF hW h9
  · exact va_Nw.warmF hW h9
  · exact va_Nw.warmF hW h9
  · exact va_Nw.warmF hW h9
  · exact va_Nw.warmF hW h9
theorem z_N.B {s : State} (h : z_N s) {args : Array Value} : ∀ w ∈ z_B, w.before args s = true := fun w hw => va_Nw.use (z_B_on w hw) (h.2.2.2.2.2.2.2.2 w hw)
theorem z_N.at {s : State} (h : z_N s) (k : Nat) {w : Cond} (hk : z_nests[k]? = some w) : va_Nw w s := h.1 w (List.mem_of_getElem? hk)
/-- a method's start: the cells ws, heap of size sz -/
def z_in (dC : Nat → ClassId) (dI : Nat → Nat → Nat) (ws : va_W) (tys : List (ClassId × FieldType)) (sz : Nat) (U : State) : Prop :=
  U.heap.size = sz ∧ va_P (dC, dI) z_Cl ws U.heap ∧ va_K (dC, dI) z_Cl tys U ∧ va_D (fun _ => True) ws ∧ z_N U
/-- a method's end: the cells ws -/
def z_out (dC : Nat → ClassId) (dI : Nat → Nat → Nat) (A : Nat → Prop) (ws : va_W) (tys : List (ClassId × FieldType)) (t : State) : Prop :=
  va_P (dC, dI) z_Cl ws t.heap ∧ va_K (dC, dI) z_Cl tys t ∧ va_D A ws
theorem z_blind {av : List Value} {dC : Nat → ClassId} {dI : Nat → Nat → Nat} {ws : va_W} {tys : List (ClassId × FieldType)} {sz : Nat} : FrameBlind (va_Pc av (z_in dC dI ws tys sz)) := fun a U g mk q => by
  obtain ⟨q0, q1, qP, qK, qD, qN⟩ := q
  exact ⟨q0, q1, qP, va_K.moved (u := U) (U := U.calling g mk a) (Vm.Alike.refl U.vm) qK, qD, qN.warm (State.WarmedH.refl U)⟩
theorem z_pre {av : List Value} {dC : Nat → ClassId} {dI : Nat → Nat → Nat} {ws : va_W} {tys : List (ClassId × FieldType)} {A : Nat → Prop} {s : State} {H : Heap} (hP : va_P (dC, dI) z_Cl ws H) (hK : va_K (dC, dI) z_Cl tys s) (hD : va_D A ws) (hN : z_N s) :
    ∀ U : State, U.heap = H → s.WarmedH U.vm → va_Pc av (z_in dC dI ws tys H.size) av.toArray U := fun U hU hW => ⟨rfl, by rw [hU], by rw [hU]; exact hP, va_K.moved hW.alike hK, hD.weaken (fun _ _ _ _ => trivial), hN.warm hW⟩
theorem z_sw4 (x : Int32) : x = 0 ∨ x = 1 ∨ x = 2 ∨ x = 3 ∨ (x.toInt < 0 ∨ 3 < x.toInt) := by
  by_cases h0 : x.toInt = 0
  · exact Or.inl (Int32.toInt_inj.mp h0)
  by_cases h1 : x.toInt = 1
  · exact Or.inr (Or.inl (Int32.toInt_inj.mp h1))
  by_cases h2 : x.toInt = 2
  · exact Or.inr (Or.inr (Or.inl (Int32.toInt_inj.mp h2)))
  by_cases h3 : x.toInt = 3
  · exact Or.inr (Or.inr (Or.inr (Or.inl (Int32.toInt_inj.mp h3))))
  exact Or.inr (Or.inr (Or.inr (Or.inr (by omega))))
def z_count (w : Int32) : Int32 := if w = 0 ∨ w = 1 ∨ w = 2 ∨ w = 3 then 0 else -1
theorem z_count_out {w : Int32} (h : w.toInt < 0 ∨ 3 < w.toInt) : -1 = z_count w := by
  unfold z_count
  rw [if_neg]
  rintro (rfl | rfl | rfl | rfl) <;> revert h <;> decide
theorem z_zero {x : Int32} (h1 : ¬ x < 0) (h2 : x ≤ 0) : x = 0 := by
  apply Int32.toInt_inj.mp
  rw [Int32.lt_iff_toInt_lt] at h1
  rw [Int32.le_iff_toInt_le] at h2
  have e : (0 : Int32).toInt = 0 := by decide
  rw [e] at h1 h2 ⊢
  omega
theorem z_none {i : Nat} {P : Prop} (h : i < Int32.toNatClampNeg 0) : P := by
  have h9 : Int32.toNatClampNeg 0 = 0 := by decide
  omega
theorem z_io {i : Int32} {n : Nat} (h : ¬ (i < 0 ∨ n ≤ i.toNatClampNeg)) : vp_in i n := h
theorem z_df0 : ∀ j, j < 3 → defaultValue (tyX0 j) = vp_V [.null, .null, .int 0] j := by decide +kernel
theorem z_df1 : ∀ j, j < 4 → defaultValue (tyX1 j) = vp_V [.null, .null, .null, .int 0] j := by decide +kernel
theorem z_df2 : ∀ j, j < 9 → defaultValue (tyX2 j) = vp_V [.int 0, .int 0, .int 0, .int 0, .int 0, .int 0, .int 0, .int 0, .null] j := by decide +kernel
theorem z_df3 : ∀ j, j < 3 → defaultValue (tyX3 j) = vp_V [.null, .null, .int 0] j := by decide +kernel
theorem z_df4 : ∀ j, j < 4 → defaultValue (tyX4 j) = vp_V [.int 0, .int 0, .int 0, .int 0] j := by decide +kernel
theorem z_df5 : ∀ j, j < 19 → defaultValue (tyX5 j) = vp_V [.int 0, .int 0, .int 0, .int 0, .int 0, .int 0, .long 0, .null, .null, .null, .null, .int 0, .int 0, .int 0, .int 0, .int 0, .null, .null, .int 0] j := by decide +kernel
theorem z_df6 : ∀ j, j < 6 → defaultValue (tyX6 j) = vp_V [.null, .null, .null, .null, .int 0, .int 0] j := by decide +kernel
theorem z_df7 : ∀ j, j < 12 → defaultValue (tyX7 j) = vp_V [.int 0, .int 0, .int 0, .null, .null, .null, .int 0, .null, .null, .null, .null, .int 0] j := by decide +kernel
theorem z_df8 : ∀ j, j < 6 → defaultValue (tyX8 j) = vp_V [.null, .int 0, .null, .null, .null, .int 0] j := by decide +kernel
theorem z_df9 : ∀ j, j < 5 → defaultValue (tyX9 j) = vp_V [.null, .null, .int 0, .int 0, .int 0] j := by decide +kernel
theorem z_df10 : ∀ j, j < 14 → defaultValue (tyX10 j) = vp_V [.null, .int 0, .null, .null, .null, .null, .null, .null, .int 0, .null, .null, .null, .int 0, .int 0] j := by decide +kernel
theorem z_df11 : ∀ j, j < 30 → defaultValue (tyX11 j) = vp_V [.int 0, .int 0, .int 0, .int 0, .null, .null, .null, .null, .null, .null, .null, .null, .null, .null, .null, .null, .null, .null, .null, .null, .null, .null, .null, .null, .null, .null, .null, .null, .null, .null] j := by decide +kernel
theorem z_df12 : ∀ j, j < 10 → defaultValue (tyX12 j) = vp_V [.int 0, .int 0, .int 0, .int 0, .int 0, .int 0, .long 0, .null, .null, .null] j := by decide +kernel
theorem z_df13 : ∀ j, j < 8 → defaultValue (tyX13 j) = vp_V [.null, .null, .null, .null, .null, .int 0, .int 0, .int 0] j := by decide +kernel
theorem z_df14 : ∀ j, j < 40 → defaultValue (tyX14 j) = vp_V [.int 0, .int 0, .int 0, .int 0, .null, .null, .null, .int 0, .int 0, .null, .null, .int 0, .int 0, .int 0, .int 0, .int 0, .int 0, .int 0, .int 0, .int 0, .int 0, .long 0, .null, .null, .int 0, .null, .int 0, .int 0, .int 0, .int 0, .null, .null, .int 0, .int 0, .null, .null, .null, .null, .null, .null] j := by decide +kernel
/-- the search, at a row that takes the thing thrown: the row's class is noted in the tables -/
theorem z_go {Q : Handler → Pre} {E : CtlPost} {e : Env} {d : Bool} {acts : List Action} {s : State} {f : JFrame} {a : Addr} {x : ExceptionTableEntry} {t : List ExceptionTableEntry} {c : ClassId} {cell : Cell} (hx : covers x f.pc = true) (h0 : x.catchType ≠ 0)
    (hl : s.vm.ClassLinks e.platform f.method.cls x.catchType c) (hcell : s.heap[a]? = some cell) (hobj : ∀ k, cell.vm ≠ .statics k) (hk : ∃ k, s.vm.classes[cell.cls]? = some k) (hc : ∃ k, s.vm.classes[c]? = some k) (hfit : s.vm.assignable cell.cls c = true) :
    wp (findHandler.go f a (x :: t)) Q E e d acts s ↔ Q (.found x.handlerPc) d acts (s.setVm (s.vm.noted f.method.cls x.catchType (.cls c))) := by
  have hx' : (decide (x.startPc ≤ f.pc) && decide (f.pc < x.endPc)) = true := hx
  obtain ⟨ha, ht⟩ := (resolveClass_links e.toSetting hl).op (op := VmOp.resolveClass f.method.cls x.catchType) rfl
  have hal : s.vm.Alike (s.vm.noted f.method.cls x.catchType (.cls c)) := (Vm.Alike.refl s.vm).noted _ _ _
  obtain ⟨k1, hk1⟩ := hk
  obtain ⟨k2, hk2⟩ := hc
  obtain ⟨k3, hk3, -⟩ := hal.2.2 _ _ hk1
  obtain ⟨k4, hk4, -⟩ := hal.2.2 _ _ hk2
  have hf2 : (s.vm.noted f.method.cls x.catchType (.cls c)).assignable cell.cls c = true := by rw [hal.assignable]; exact hfit
  simp [findHandler.go, hx', h0, ha, ht, hcell, hobj, hk3, hk4, hf2, VmOp.dirties, VmOp.acts]
/-- the two static fields that a Throwable's making reads -/
def z_st (A : Nat → Prop) (U : State) (H : Heap) : Prop := vx_Zq Bundle.tN "UNASSIGNED_STACK" Bundle.steD A U H ∧ vx_Zq Bundle.tN "SUPPRESSED_SENTINEL" Bundle.listD A U H
def z_in2 (dC : Nat → ClassId) (dI : Nat → Nat → Nat) (ws : va_W) (tys : List (ClassId × FieldType)) (sz : Nat) (U : State) : Prop :=
  U.heap.size = sz ∧ va_P (dC, dI) z_Cl ws U.heap ∧ va_K (dC, dI) z_Cl tys U ∧ va_D (fun _ => True) ws ∧ z_N U ∧ z_st (va_A ws sz) U U.heap
theorem z_blind2 {av : List Value} {dC : Nat → ClassId} {dI : Nat → Nat → Nat} {ws : va_W} {tys : List (ClassId × FieldType)} {sz : Nat} : FrameBlind (va_Pc av (z_in2 dC dI ws tys sz)) := fun a U g mk q => by
  obtain ⟨q0, q1, qP, qK, qD, qN, qZ1, qZ2⟩ := q
  exact ⟨q0, q1, qP, va_K.moved (u := U) (U := U.calling g mk a) (Vm.Alike.refl U.vm) qK, qD, qN.warm (State.WarmedH.refl U), vx_Zq.moved (u := U) (U := U.calling g mk a) (Vm.Alike.refl U.vm) qZ1, vx_Zq.moved (u := U) (U := U.calling g mk a) (Vm.Alike.refl U.vm) qZ2⟩
theorem z_pre2 {av : List Value} {dC : Nat → ClassId} {dI : Nat → Nat → Nat} {ws : va_W} {tys : List (ClassId × FieldType)} {A : Nat → Prop} {s : State} {H : Heap} {locs : List Loc} (hP : va_P (dC, dI) z_Cl ws H) (hK : va_K (dC, dI) z_Cl tys s) (hD : va_D A ws) (hN : z_N s) (hZ : z_st A s s.heap) (hS : va_S A s.heap H locs) (hF : ∀ q, va_A ws H.size q → A q) :
    ∀ U : State, U.heap = H → s.WarmedH U.vm → va_Pc av (z_in2 dC dI ws tys H.size) av.toArray U := fun U hU hW => ⟨rfl, by rw [hU], by rw [hU]; exact hP, va_K.moved hW.alike hK, hD.weaken (fun _ _ _ _ => trivial), hN.warm hW,
      by rw [hU]; exact vx_Zq.moved hW.alike ((hZ.1.kept hS.2.1).narrow hF), by rw [hU]; exact vx_Zq.moved hW.alike ((hZ.2.kept hS.2.1).narrow hF)⟩
section ZW
variable {p : Program} {l : Launch} {e : Env} {R : Room} {s : State} {m : MethodId} {args : Array Value} {below : List Frame} {meth : Method} {c : Code} {H : Heap} {locs : List Loc} {cells slots : Nat} {Q : State → Prop} {cc : ByteArray} {pc : Nat} {ls : Array Slot} {rest : List Value}
theorem z_athrow (hexec : p.tables.exec = Jvm.exec) (hb : c.code = cc) {q : Addr} (hdg : decode cc pc = .ok (.athrow, 1)) (k : vx_W p l e R s m args below meth c H locs cells slots Q (F0 m pc ls rest) q) : W p l e R s m args below meth c H locs cells slots Q (F0 m pc ls (.ref q :: rest)) := by
  intro T hT X
  obtain ⟨t, a, b⟩ := k T hT X
  refine ⟨t, ?_, b⟩
  jvm_step X.here [X.here.top, hexec, hb, hdg, athrow.wp_sem]
  exact a
/-- caught by the first row x of this method's own table; its class may have been resolved or not -/
theorem z_catch {own name : String} {E : String} {ce : Cell} {q : Addr} (hown : s.vm.findClass own = some m.cls) (x : ExceptionTableEntry) (suf : List ExceptionTableEntry) (hsplit : c.exceptionTable.toList = x :: suf) (hx : covers x pc = true) (h0 : x.catchType ≠ 0)
    (hlink : (Cond.classLink own x.catchType name).before args s = true) (hcast : (Cond.castable E name).before args s = true) (hcell : H[q]? = some ce) (hv : ce.vm = .none) (hcl : s.vm.findClass E = some ce.cls)
    (kk : W p l e R s m args below meth c H locs cells slots Q (F0 m x.handlerPc ls [.ref q])) : vx_W p l e R s m args below meth c H locs cells slots Q (F0 m pc ls rest) q := by
  intro T hT X
  have hpl : e.platform.magicAccessors = ({} : Platform).magicAccessors := by rw [X.admits.platform]
  obtain ⟨c3, c4, hc3, hc4, hasg⟩ := Cond.castable_spec hcast
  cases Option.some.inj (hc3.symm.trans hcl)
  obtain ⟨c5, hc5, hcl5⟩ := Cond.classLink_spec hown hlink e.platform hpl
  cases Option.some.inj (hc4.symm.trans hc5)
  obtain ⟨dk, _, _, kt, hd, _, _, _, _, hkt, _, hopen⟩ := hcl5.here
  have hW' : s.WarmedH (T.vm.noted m.cls x.catchType (.cls c4)) := X.warmed.noted hd hopen (State.rightAt_cls hcl5)
  have hlT : T.vm.ClassLinks e.platform m.cls x.catchType c4 := X.warmed.classLinks hcl5
  have hal := X.warmed.alike
  obtain ⟨kt', hkt', -⟩ := hal.2.2 _ _ hkt
  have hfitT : T.vm.assignable ce.cls c4 = true := by rw [hal.assignable]; exact hasg
  obtain ⟨k1, hk1⟩ := Vm.classAt_of_assignable hfitT ⟨kt', hkt'⟩
  generalize hvm' : T.vm.noted m.cls x.catchType (.cls c4) = vm' at hW'
  obtain ⟨t, a1, b1⟩ := kk (T.setVm vm') hT (X.noted hW')
  refine ⟨t, ?_, b1⟩
  have hal2 : T.vm.Alike (T.vm.noted m.cls x.catchType (.cls c4)) := (Vm.Alike.refl T.vm).noted _ _ _
  have hfind : ∀ (Q9 : Handler → Pre) (E9 : CtlPost) (d9 : Bool) (acts : List Action), wp (findHandler (F0 m pc ls rest) q) Q9 E9 e d9 acts ((T.setTop (F0 m pc ls rest)).pushFrame (.throwing q)) ↔ Q9 (.found x.handlerPc) d9 acts (((T.setTop (F0 m pc ls rest)).pushFrame (.throwing q)).setVm vm') := by
    intro Q9 E9 d9 acts
    have hvmS : ((T.setTop (F0 m pc ls rest)).pushFrame (.throwing q)).vm = T.vm := Stand.throwing_vm T _ q
    have hhpS : ((T.setTop (F0 m pc ls rest)).pushFrame (.throwing q)).heap = T.heap := Stand.throwing_heap T _ q
    generalize (T.setTop (F0 m pc ls rest)).pushFrame (.throwing q) = S at hvmS hhpS ⊢
    rw [W.findHandler_eq (meth := meth) (code := c) (by rw [hvmS]; exact X.method') X.code, hsplit]
    have hk1S : ∃ k, S.vm.classes[ce.cls]? = some k := ⟨k1, by rw [hvmS]; exact hk1⟩
    have hk2S : ∃ k, S.vm.classes[c4]? = some k := ⟨kt', by rw [hvmS]; exact hkt'⟩
    rw [z_go (f := F0 m pc ls rest) (x := x) (c := c4) (cell := ce) hx h0 (by rw [hvmS]; exact hlT) (by rw [hhpS, hT]; exact hcell) (fun k h => by rw [hv] at h; cases h) hk1S hk2S (by rw [hvmS]; exact hfitT)]
    show Q9 (.found x.handlerPc) d9 acts (S.setVm (S.vm.noted m.cls x.catchType (.cls c4))) ↔ _
    rw [hvmS, hvm']
  obtain ⟨hgo, hw⟩ := At.throwing (g := F0 m pc ls rest) X.here q
  refine Steps.head hgo hw ?_
  rw [stepThread_throwing (frames_entered X.here.top _)]
  obtain ⟨g₀, hg⟩ := Option.isSome_iff_exists.mp X.here.top
  obtain ⟨r, hr⟩ := State.topJava?_eq_some.mp hg
  have hstep : (stepThrowing e ((T.setTop (F0 m pc ls rest)).pushFrame (.throwing q)) q (.java (F0 m pc ls rest) :: T.frames.tail)).Is ((((T.setTop (F0 m pc ls rest)).pushFrame (.throwing q)).setVm vm').setFrames (.java { F0 m pc ls rest with pc := x.handlerPc, stack := [.ref q] } :: T.frames.tail)) [] := by
    simp only [stepThrowing, searchFrame, vmDo]
    generalize hres : Sem.go _ e false [] _ = res
    obtain ⟨as, rfl, ha⟩ := Sem.eq_ok_of hres (a := Handler.found x.handlerPc) (s' := ((T.setTop (F0 m pc ls rest)).pushFrame (.throwing q)).setVm vm') (acts' := []) (by simp [hfind _ _ _ _])
    exact ⟨rfl, ha⟩
  rw [hstep.1]
  have hr' : (T.setVm vm').frames = .java g₀ :: r := hr
  rw [State.setTop_of_frames _ hr'] at a1
  have e1 : (((T.setTop (F0 m pc ls rest)).pushFrame (.throwing q)).setVm vm').setFrames (.java { F0 m pc ls rest with pc := x.handlerPc, stack := [.ref q] } :: T.frames.tail) = (T.setVm vm').setFrames (.java { F0 m pc ls rest with pc := x.handlerPc, stack := [.ref q] } :: r) := by
    rw [hr, List.tail_cons, State.pushFrame, State.setTop_of_frames _ hr, State.setFrames_setFrames]
    show ((T.setVm vm').setFrames _).setFrames _ = _
    rw [State.setFrames_setFrames]
  rw [e1]
  exact a1
end ZW
