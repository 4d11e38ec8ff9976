/-! THE CLAIM OUT OF ONE WALK OF THE LAW'S BODY. Your part is whole_start (and what it stands on); all else here is the same for every law, but numbers. -/
def R_law : String := "LessonMakerLaw"
def lw_P (b : Addr) (xs : List Int32) (args : Array Value) (s : State) : Prop := args = #[.ref b] ∧ s.IntsAt b xs ∧ xs.length ≤ 3072 ∧ (Jvm.Cond.and given_1 narrow_1).before args s = true
def lw_Q (_ : Array Value) (s : State) (o : Outcome) (t : State) : Prop := o = .returned (some (.int 1)) ∧ Framed s o t [] 601024 7293034
def lw_Z (below : List Frame) (a : Array Value) (s : State) : State → Prop := fun t => ∃ o, t.status = .running ∧ Ended t below o ∧ lw_Q a s o t
/-- the law's own end, with 1 on the stack, nothing written that was there before, its room as the claim has it -/
theorem lw_ret {p : Program} {l : Launch} {e : Env} {s : State} {m : MethodId} {below : List Frame} {meth : Method} {c : Code} {b : Nat} (hx : p.tables.exec = Jvm.exec) (hb : c.code = code) (hr : meth.sig.returnType = ret) (hlocks : meth.locks = false) {pc : Nat} {H : Heap} {ls : Array Slot} (hdg : decode code pc = .ok (.ireturn, 1)) : W p l e room_1 s m #[Value.ref b] below meth c H [] 601024 7293034 (lw_Z below #[Value.ref b] s) (F0 m pc ls [.int 1]) := by
  intro T hT X
  obtain ⟨fs, hret, hrun, hended, hW, hframe⟩ := X.leave (v := some (.int 1)) (hlocks := hlocks) (fun h => by rw [hr] at h; cases h)
  have hmeth' : T.vm.method? m = some meth := X.method'
  refine ⟨T.setFrames fs, ?_, .returned (some (.int 1)), hrun, hended, rfl, ⟨_, rfl⟩, hW, hframe⟩
  jvm_step X.here [X.here.top, hx, hb, hdg, hmeth', hr, ret, narrow_b1]
  (try refine ⟨rfl, ?_⟩); (try refine ⟨rfl, ?_⟩)
  first | (intro acts; rw [hret _ acts rfl rfl rfl]) | rw [hret _ _ rfl rfl rfl]
  exact Steps.refl _
/-- what holds at the law's entry: the machine, the code, the tables' words (any of lw_tbl by 'hts w (by decide +kernel)'), the script of L ints xs at the cell b, what the Statement gives of the start (any of its parts by flat_of_before) -/
def lw_At (p : Program) (s : State) (m : MethodId) (meth : Method) (c : Code) (b L : Nat) (xs : Nat → Int32) : Prop :=
  p.tables.exec = Jvm.exec ∧ c.code = code ∧ meth.sig.returnType = ret ∧ c.maxLocals = 7 ∧ s.vm.findClass R_law = some m.cls ∧ (∀ w ∈ lw_tbl, w.before #[Value.ref b] s = true) ∧ va_X b L xs s s.heap ∧ b < s.heap.size ∧ meth.locks = false ∧ (Jvm.Cond.and given_1 narrow_1).before #[Value.ref b] s = true
theorem z_mem {big ws : List Cond} (ps : List Nat) (hp : ws = ps.filterMap (fun i => big[i]?)) : ∀ w ∈ ws, w ∈ big := fun w hw => by
  rw [hp] at hw
  obtain ⟨i, -, hi⟩ := List.mem_filterMap.mp hw
  exact List.mem_of_getElem? hi
theorem z_32 {j : Nat} (h : j < 32) : j = 0 ∨ j = 1 ∨ j = 2 ∨ j = 3 ∨ j = 4 ∨ j = 5 ∨ j = 6 ∨ j = 7 ∨ j = 8 ∨ j = 9 ∨ j = 10 ∨ j = 11 ∨ j = 12 ∨ j = 13 ∨ j = 14 ∨ j = 15 ∨ j = 16 ∨ j = 17 ∨ j = 18 ∨ j = 19 ∨ j = 20 ∨ j = 21 ∨ j = 22 ∨ j = 23 ∨ j = 24 ∨ j = 25 ∨ j = 26 ∨ j = 27 ∨ j = 28 ∨ j = 29 ∨ j = 30 ∨ j = 31 := by omega
theorem z_ex {own C : String} {k : Nat} {args : Array Value} {s : State} (h : (Cond.exactly (.string own k) C).before args s = true) : ∃ a, (Term.string own k).eval args s none [] s = some (.ref a) := by
  obtain ⟨a, _, _, _, h1, -⟩ := Cond.exactly_spec h
  exact ⟨a, h1⟩
theorem z_nests_in : ∀ w ∈ z_nests, w ∈ lw_tbl := z_mem [241, 1199, 1353, 1204, 1205, 1207, 1343, 1344] (by decide +kernel)
theorem z_nests_on : ∀ w ∈ z_nests, w.onTables = true := by decide +kernel
theorem z_B_tbl : ∀ w ∈ z_B, w ∈ lw_tbl := z_mem [1093, 1095, 1097, 1091] (by decide +kernel)
theorem z_N0 {b : Nat} {s : State} (hts : ∀ w ∈ lw_tbl, w.before #[Value.ref b] s = true) (hgv : (Jvm.Cond.and given_1 narrow_1).before #[Value.ref b] s = true) : z_N s :=
  ⟨fun w h => va_Nw.of (z_nests_on w h) (hts w (z_nests_in w h)), va_AO.of (hts (.arrayOver (.object "LessonMaker$Function")) (List.mem_of_getElem? (i := 188) (by decide +kernel))), va_AO.of (hts (.arrayOver (.object "LessonMaker$Line")) (List.mem_of_getElem? (i := 239) (by decide +kernel))),
    by
      obtain ⟨a, h9⟩ := z_ex (flat_of_before _ hgv (.exactly (.string "LessonMakerModel" 152) "java/lang/String") (by decide +kernel))
      exact ⟨a, vk_R.of (hts (.stringRef RX14 152 "def") (List.mem_of_getElem? (i := 1550) (by decide +kernel))) h9⟩,
    by
      obtain ⟨a, h9⟩ := z_ex (flat_of_before _ hgv (.exactly (.string "LessonMaker" 122) "java/lang/String") (by decide +kernel))
      exact ⟨a, vk_R.of (hts (.stringRef RX10 122 "no such function") (List.mem_of_getElem? (i := 1129) (by decide +kernel))) h9⟩,
    by
      obtain ⟨a, h9⟩ := z_ex (flat_of_before _ hgv (.exactly (.string "LessonMaker" 206) "java/lang/String") (by decide +kernel))
      exact ⟨a, vk_R.of (hts (.stringRef RX10 206 "nothing such was said") (List.mem_of_getElem? (i := 1168) (by decide +kernel))) h9⟩,
    by
      obtain ⟨a, h9⟩ := z_ex (flat_of_before _ hgv (.exactly (.string "LessonMaker" 215) "java/lang/String") (by decide +kernel))
      exact ⟨a, vk_R.of (hts (.stringRef RX10 215 "nothing such was traced") (List.mem_of_getElem? (i := 1185) (by decide +kernel))) h9⟩, va_Nw.of rfl (hts (.castable RX13 RX13) (List.mem_of_getElem? (i := 1324) (by decide +kernel))), fun w h => va_Nw.of (z_B_on w h) (hts w (z_B_tbl w h))⟩
theorem z_st0 {b : Nat} {s : State} {A : Nat → Prop} (hts : ∀ w ∈ lw_tbl, w.before #[Value.ref b] s = true) (hgv : (Jvm.Cond.and given_1 narrow_1).before #[Value.ref b] s = true) (hA : ∀ a : Nat, a < s.heap.size → ¬ A a) : z_st A s s.heap :=
  ⟨vx_Zqof (hts (.laysStatic "java/lang/Throwable" "UNASSIGNED_STACK" "[Ljava/lang/StackTraceElement;") (List.mem_of_getElem? (i := 1116) (by decide +kernel))) (hts (.initialized "java/lang/Throwable") (List.mem_of_getElem? (i := 107) (by decide +kernel))) (flat_of_before _ hgv (.isRef (.static "java/lang/Throwable" "UNASSIGNED_STACK" "[Ljava/lang/StackTraceElement;")) (by decide +kernel)) hA,
    vx_Zqof (hts (.laysStatic "java/lang/Throwable" "SUPPRESSED_SENTINEL" "Ljava/util/List;") (List.mem_of_getElem? (i := 1118) (by decide +kernel))) (hts (.initialized "java/lang/Throwable") (List.mem_of_getElem? (i := 107) (by decide +kernel))) (flat_of_before _ hgv (.isRef (.static "java/lang/Throwable" "SUPPRESSED_SENTINEL" "Ljava/util/List;")) (by decide +kernel)) hA⟩
theorem z_app {a b big : List Cond} (ha : ∀ w ∈ a, w ∈ big) (hb : ∀ w ∈ b, w ∈ big) : ∀ w ∈ a ++ b, w ∈ big := fun w h => (List.mem_append.mp h).elim (ha w) (hb w)
set_option maxRecDepth 100000 in
theorem zNw_in : ∀ w ∈ zNw, w ∈ lw_tbl := z_mem [1343, 1344, 1204, 1205, 1207, 1250, 1258, 1214, 1254, 1256, 1252, 1222, 1210, 1212, 1226, 1216, 1218, 1238, 1224, 1228, 1230, 1232, 1234, 1240, 1242, 1244, 1236, 1246, 1248, 1208, 1260, 1220, 1357, 1358, 1359, 1360, 1361, 1362, 1363, 1369, 1365, 1367] (by decide +kernel)
theorem zNw_on : ∀ w ∈ zNw, w.onTables = true := by decide +kernel
theorem zsk0 {b : Nat} {s : State} {A : Nat → Prop} {own tx : String} {k n : Nat} (bs : List Int32) (hn : n < 2 ^ 31) (hsr : (Cond.stringRef own k tx).before #[Value.ref b] s = true) (hex : (Cond.exactly (.string own k) "java/lang/String").before #[Value.ref b] s = true) (hco : (Cond.eq (.field (.string own k) "java/lang/String" "coder" "B") (.int 0)).before #[Value.ref b] s = true) (har : (Cond.arrayOf (.field (.string own k) "java/lang/String" "value" "[B") .byte).before #[Value.ref b] s = true) (hle : (Cond.eq (.length (.field (.string own k) "java/lang/String" "value" "[B")) (.int (Int32.ofNat n))).before #[Value.ref b] s = true) (hel : ∀ j : Nat, j < n → (Cond.eq (.elem (.field (.string own k) "java/lang/String" "value" "[B") (.int (Int32.ofNat j))) (.int (bs.getD j 0))).before #[Value.ref b] s = true) (hA : ∀ a : Nat, a < s.heap.size → ¬ A a) : ∃ q : Nat × Nat, vk_R own k tx q.1 s ∧ zSt q.1 q.2 n bs A s s.heap := by
  obtain ⟨a, c, cA, kA, q1, q2, q3, q4, q5, q6, -⟩ := Cond.exactly_spec (args := #[Value.ref b]) (first := s) (o := none) (s := s) (idx := []) (t := .string own k) (cls := "java/lang/String") hex
  obtain ⟨t, ht, hT⟩ := va_Tof (f := fun j => .int (bs.getD j 0)) (A := A) hn har (va_eqt hle) (fun j hj => va_eqt (hel j hj)) hA
  exact ⟨(a, t), vk_R.of hsr q1, ⟨cA, q3, q5, by rw [q6]; exact q2, hA a (Array.getElem?_eq_some_iff.mp q3).1⟩, vk_OFof q1 (va_eqt hco) hA, vk_OFof q1 ht hA, hT⟩
theorem zArr0 {args : Array Value} {s : State} {ty : FieldType} (h : (Cond.arrayClass ty).before args s = true) : ∃ c, ArrOfT s c ty ∧ s.vm.findClass ("[" ++ ty.toString) = some c := by
  obtain ⟨c, k, comp, h1, h2, h3⟩ := Cond.arrayClass_spec h
  exact ⟨c, fun n z => ⟨fun k h => (by cases h), k, h2, comp, h3⟩, h1⟩
theorem zArrO {s : State} {C : String} (h : va_AO C s) : ∃ c, ArrOfT s c (.object C) ∧ va_RA s c (.object C) := by
  obtain ⟨comp, c, k, h1, h2, h3, h4, h5⟩ := Cond.arrayOver_spec h
  exact ⟨c, fun n z => ⟨fun k h => (by cases h), k, h3, comp, h4⟩, k, comp, h3, h4, h1, h5⟩
set_option maxRecDepth 100000 in
theorem zsk_0 {b : Nat} {s : State} {A : Nat → Prop} (hts : ∀ w ∈ lw_tbl, w.before #[Value.ref b] s = true) (hgv : (Jvm.Cond.and given_1 narrow_1).before #[Value.ref b] s = true) (hA : ∀ a : Nat, a < s.heap.size → ¬ A a) : ∃ q : Nat × Nat, vk_R RX8 80 "def" q.1 s ∧ zSt q.1 q.2 3 [100, 101, 102] A s s.heap :=
  zsk0 [100, 101, 102] (by decide) (hts (.stringRef RX8 80 "def") (List.mem_of_getElem? (i := 589) (by decide +kernel))) (flat_of_before _ hgv (.exactly (.string "LessonMaker$Tokens" 80) "java/lang/String") (by decide +kernel)) (flat_of_before _ hgv (.eq (.field (.string "LessonMaker$Tokens" 80) "java/lang/String" "coder" "B") (.int 0)) (by decide +kernel)) (flat_of_before _ hgv (.arrayOf (.field (.string "LessonMaker$Tokens" 80) "java/lang/String" "value" "[B") .byte) (by decide +kernel)) (flat_of_before _ hgv (.eq (.length (.field (.string "LessonMaker$Tokens" 80) "java/lang/String" "value" "[B")) (.int 3)) (by decide +kernel)) (fun j hj => match j, hj with
    | 0, _ => (flat_of_before _ hgv (.eq (.elem (.field (.string "LessonMaker$Tokens" 80) "java/lang/String" "value" "[B") (.int 0)) (.int 100)) (by decide +kernel))
    | 1, _ => (flat_of_before _ hgv (.eq (.elem (.field (.string "LessonMaker$Tokens" 80) "java/lang/String" "value" "[B") (.int 1)) (.int 101)) (by decide +kernel))
    | 2, _ => (flat_of_before _ hgv (.eq (.elem (.field (.string "LessonMaker$Tokens" 80) "java/lang/String" "value" "[B") (.int 2)) (.int 102)) (by decide +kernel))
    | j + 3, hj => by omega) hA
set_option maxRecDepth 100000 in
theorem zsk_1 {b : Nat} {s : State} {A : Nat → Prop} (hts : ∀ w ∈ lw_tbl, w.before #[Value.ref b] s = true) (hgv : (Jvm.Cond.and given_1 narrow_1).before #[Value.ref b] s = true) (hA : ∀ a : Nat, a < s.heap.size → ¬ A a) : ∃ q : Nat × Nat, vk_R RX8 86 "say" q.1 s ∧ zSt q.1 q.2 3 [115, 97, 121] A s s.heap :=
  zsk0 [115, 97, 121] (by decide) (hts (.stringRef RX8 86 "say") (List.mem_of_getElem? (i := 642) (by decide +kernel))) (flat_of_before _ hgv (.exactly (.string "LessonMaker$Tokens" 86) "java/lang/String") (by decide +kernel)) (flat_of_before _ hgv (.eq (.field (.string "LessonMaker$Tokens" 86) "java/lang/String" "coder" "B") (.int 0)) (by decide +kernel)) (flat_of_before _ hgv (.arrayOf (.field (.string "LessonMaker$Tokens" 86) "java/lang/String" "value" "[B") .byte) (by decide +kernel)) (flat_of_before _ hgv (.eq (.length (.field (.string "LessonMaker$Tokens" 86) "java/lang/String" "value" "[B")) (.int 3)) (by decide +kernel)) (fun j hj => match j, hj with
    | 0, _ => (flat_of_before _ hgv (.eq (.elem (.field (.string "LessonMaker$Tokens" 86) "java/lang/String" "value" "[B") (.int 0)) (.int 115)) (by decide +kernel))
    | 1, _ => (flat_of_before _ hgv (.eq (.elem (.field (.string "LessonMaker$Tokens" 86) "java/lang/String" "value" "[B") (.int 1)) (.int 97)) (by decide +kernel))
    | 2, _ => (flat_of_before _ hgv (.eq (.elem (.field (.string "LessonMaker$Tokens" 86) "java/lang/String" "value" "[B") (.int 2)) (.int 121)) (by decide +kernel))
    | j + 3, hj => by omega) hA
set_option maxRecDepth 100000 in
theorem zsk_2 {b : Nat} {s : State} {A : Nat → Prop} (hts : ∀ w ∈ lw_tbl, w.before #[Value.ref b] s = true) (hgv : (Jvm.Cond.and given_1 narrow_1).before #[Value.ref b] s = true) (hA : ∀ a : Nat, a < s.heap.size → ¬ A a) : ∃ q : Nat × Nat, vk_R RX8 88 "return" q.1 s ∧ zSt q.1 q.2 6 [114, 101, 116, 117, 114, 110] A s s.heap :=
  zsk0 [114, 101, 116, 117, 114, 110] (by decide) (hts (.stringRef RX8 88 "return") (List.mem_of_getElem? (i := 643) (by decide +kernel))) (flat_of_before _ hgv (.exactly (.string "LessonMaker$Tokens" 88) "java/lang/String") (by decide +kernel)) (flat_of_before _ hgv (.eq (.field (.string "LessonMaker$Tokens" 88) "java/lang/String" "coder" "B") (.int 0)) (by decide +kernel)) (flat_of_before _ hgv (.arrayOf (.field (.string "LessonMaker$Tokens" 88) "java/lang/String" "value" "[B") .byte) (by decide +kernel)) (flat_of_before _ hgv (.eq (.length (.field (.string "LessonMaker$Tokens" 88) "java/lang/String" "value" "[B")) (.int 6)) (by decide +kernel)) (fun j hj => match j, hj with
    | 0, _ => (flat_of_before _ hgv (.eq (.elem (.field (.string "LessonMaker$Tokens" 88) "java/lang/String" "value" "[B") (.int 0)) (.int 114)) (by decide +kernel))
    | 1, _ => (flat_of_before _ hgv (.eq (.elem (.field (.string "LessonMaker$Tokens" 88) "java/lang/String" "value" "[B") (.int 1)) (.int 101)) (by decide +kernel))
    | 2, _ => (flat_of_before _ hgv (.eq (.elem (.field (.string "LessonMaker$Tokens" 88) "java/lang/String" "value" "[B") (.int 2)) (.int 116)) (by decide +kernel))
    | 3, _ => (flat_of_before _ hgv (.eq (.elem (.field (.string "LessonMaker$Tokens" 88) "java/lang/String" "value" "[B") (.int 3)) (.int 117)) (by decide +kernel))
    | 4, _ => (flat_of_before _ hgv (.eq (.elem (.field (.string "LessonMaker$Tokens" 88) "java/lang/String" "value" "[B") (.int 4)) (.int 114)) (by decide +kernel))
    | 5, _ => (flat_of_before _ hgv (.eq (.elem (.field (.string "LessonMaker$Tokens" 88) "java/lang/String" "value" "[B") (.int 5)) (.int 110)) (by decide +kernel))
    | j + 6, hj => by omega) hA
set_option maxRecDepth 100000 in
theorem zsk_3 {b : Nat} {s : State} {A : Nat → Prop} (hts : ∀ w ∈ lw_tbl, w.before #[Value.ref b] s = true) (hgv : (Jvm.Cond.and given_1 narrow_1).before #[Value.ref b] s = true) (hA : ∀ a : Nat, a < s.heap.size → ¬ A a) : ∃ q : Nat × Nat, vk_R RX8 90 "if" q.1 s ∧ zSt q.1 q.2 2 [105, 102] A s s.heap :=
  zsk0 [105, 102] (by decide) (hts (.stringRef RX8 90 "if") (List.mem_of_getElem? (i := 644) (by decide +kernel))) (flat_of_before _ hgv (.exactly (.string "LessonMaker$Tokens" 90) "java/lang/String") (by decide +kernel)) (flat_of_before _ hgv (.eq (.field (.string "LessonMaker$Tokens" 90) "java/lang/String" "coder" "B") (.int 0)) (by decide +kernel)) (flat_of_before _ hgv (.arrayOf (.field (.string "LessonMaker$Tokens" 90) "java/lang/String" "value" "[B") .byte) (by decide +kernel)) (flat_of_before _ hgv (.eq (.length (.field (.string "LessonMaker$Tokens" 90) "java/lang/String" "value" "[B")) (.int 2)) (by decide +kernel)) (fun j hj => match j, hj with
    | 0, _ => (flat_of_before _ hgv (.eq (.elem (.field (.string "LessonMaker$Tokens" 90) "java/lang/String" "value" "[B") (.int 0)) (.int 105)) (by decide +kernel))
    | 1, _ => (flat_of_before _ hgv (.eq (.elem (.field (.string "LessonMaker$Tokens" 90) "java/lang/String" "value" "[B") (.int 1)) (.int 102)) (by decide +kernel))
    | j + 2, hj => by omega) hA
set_option maxRecDepth 100000 in
theorem zsk_4 {b : Nat} {s : State} {A : Nat → Prop} (hts : ∀ w ∈ lw_tbl, w.before #[Value.ref b] s = true) (hgv : (Jvm.Cond.and given_1 narrow_1).before #[Value.ref b] s = true) (hA : ∀ a : Nat, a < s.heap.size → ¬ A a) : ∃ q : Nat × Nat, vk_R RX8 92 "else" q.1 s ∧ zSt q.1 q.2 4 [101, 108, 115, 101] A s s.heap :=
  zsk0 [101, 108, 115, 101] (by decide) (hts (.stringRef RX8 92 "else") (List.mem_of_getElem? (i := 645) (by decide +kernel))) (flat_of_before _ hgv (.exactly (.string "LessonMaker$Tokens" 92) "java/lang/String") (by decide +kernel)) (flat_of_before _ hgv (.eq (.field (.string "LessonMaker$Tokens" 92) "java/lang/String" "coder" "B") (.int 0)) (by decide +kernel)) (flat_of_before _ hgv (.arrayOf (.field (.string "LessonMaker$Tokens" 92) "java/lang/String" "value" "[B") .byte) (by decide +kernel)) (flat_of_before _ hgv (.eq (.length (.field (.string "LessonMaker$Tokens" 92) "java/lang/String" "value" "[B")) (.int 4)) (by decide +kernel)) (fun j hj => match j, hj with
    | 0, _ => (flat_of_before _ hgv (.eq (.elem (.field (.string "LessonMaker$Tokens" 92) "java/lang/String" "value" "[B") (.int 0)) (.int 101)) (by decide +kernel))
    | 1, _ => (flat_of_before _ hgv (.eq (.elem (.field (.string "LessonMaker$Tokens" 92) "java/lang/String" "value" "[B") (.int 1)) (.int 108)) (by decide +kernel))
    | 2, _ => (flat_of_before _ hgv (.eq (.elem (.field (.string "LessonMaker$Tokens" 92) "java/lang/String" "value" "[B") (.int 2)) (.int 115)) (by decide +kernel))
    | 3, _ => (flat_of_before _ hgv (.eq (.elem (.field (.string "LessonMaker$Tokens" 92) "java/lang/String" "value" "[B") (.int 3)) (.int 101)) (by decide +kernel))
    | j + 4, hj => by omega) hA
set_option maxRecDepth 100000 in
theorem zsk_5 {b : Nat} {s : State} {A : Nat → Prop} (hts : ∀ w ∈ lw_tbl, w.before #[Value.ref b] s = true) (hgv : (Jvm.Cond.and given_1 narrow_1).before #[Value.ref b] s = true) (hA : ∀ a : Nat, a < s.heap.size → ¬ A a) : ∃ q : Nat × Nat, vk_R RX8 94 "while" q.1 s ∧ zSt q.1 q.2 5 [119, 104, 105, 108, 101] A s s.heap :=
  zsk0 [119, 104, 105, 108, 101] (by decide) (hts (.stringRef RX8 94 "while") (List.mem_of_getElem? (i := 646) (by decide +kernel))) (flat_of_before _ hgv (.exactly (.string "LessonMaker$Tokens" 94) "java/lang/String") (by decide +kernel)) (flat_of_before _ hgv (.eq (.field (.string "LessonMaker$Tokens" 94) "java/lang/String" "coder" "B") (.int 0)) (by decide +kernel)) (flat_of_before _ hgv (.arrayOf (.field (.string "LessonMaker$Tokens" 94) "java/lang/String" "value" "[B") .byte) (by decide +kernel)) (flat_of_before _ hgv (.eq (.length (.field (.string "LessonMaker$Tokens" 94) "java/lang/String" "value" "[B")) (.int 5)) (by decide +kernel)) (fun j hj => match j, hj with
    | 0, _ => (flat_of_before _ hgv (.eq (.elem (.field (.string "LessonMaker$Tokens" 94) "java/lang/String" "value" "[B") (.int 0)) (.int 119)) (by decide +kernel))
    | 1, _ => (flat_of_before _ hgv (.eq (.elem (.field (.string "LessonMaker$Tokens" 94) "java/lang/String" "value" "[B") (.int 1)) (.int 104)) (by decide +kernel))
    | 2, _ => (flat_of_before _ hgv (.eq (.elem (.field (.string "LessonMaker$Tokens" 94) "java/lang/String" "value" "[B") (.int 2)) (.int 105)) (by decide +kernel))
    | 3, _ => (flat_of_before _ hgv (.eq (.elem (.field (.string "LessonMaker$Tokens" 94) "java/lang/String" "value" "[B") (.int 3)) (.int 108)) (by decide +kernel))
    | 4, _ => (flat_of_before _ hgv (.eq (.elem (.field (.string "LessonMaker$Tokens" 94) "java/lang/String" "value" "[B") (.int 4)) (.int 101)) (by decide +kernel))
    | j + 5, hj => by omega) hA
set_option maxRecDepth 100000 in
theorem zsk_6 {b : Nat} {s : State} {A : Nat → Prop} (hts : ∀ w ∈ lw_tbl, w.before #[Value.ref b] s = true) (hgv : (Jvm.Cond.and given_1 narrow_1).before #[Value.ref b] s = true) (hA : ∀ a : Nat, a < s.heap.size → ¬ A a) : ∃ q : Nat × Nat, vk_R RX14 152 "def" q.1 s ∧ zSt q.1 q.2 3 [100, 101, 102] A s s.heap :=
  zsk0 [100, 101, 102] (by decide) (hts (.stringRef RX14 152 "def") (List.mem_of_getElem? (i := 1550) (by decide +kernel))) (flat_of_before _ hgv (.exactly (.string "LessonMakerModel" 152) "java/lang/String") (by decide +kernel)) (flat_of_before _ hgv (.eq (.field (.string "LessonMakerModel" 152) "java/lang/String" "coder" "B") (.int 0)) (by decide +kernel)) (flat_of_before _ hgv (.arrayOf (.field (.string "LessonMakerModel" 152) "java/lang/String" "value" "[B") .byte) (by decide +kernel)) (flat_of_before _ hgv (.eq (.length (.field (.string "LessonMakerModel" 152) "java/lang/String" "value" "[B")) (.int 3)) (by decide +kernel)) (fun j hj => match j, hj with
    | 0, _ => (flat_of_before _ hgv (.eq (.elem (.field (.string "LessonMakerModel" 152) "java/lang/String" "value" "[B") (.int 0)) (.int 100)) (by decide +kernel))
    | 1, _ => (flat_of_before _ hgv (.eq (.elem (.field (.string "LessonMakerModel" 152) "java/lang/String" "value" "[B") (.int 1)) (.int 101)) (by decide +kernel))
    | 2, _ => (flat_of_before _ hgv (.eq (.elem (.field (.string "LessonMakerModel" 152) "java/lang/String" "value" "[B") (.int 2)) (.int 102)) (by decide +kernel))
    | j + 3, hj => by omega) hA
set_option maxRecDepth 100000 in
theorem zsk_7 {b : Nat} {s : State} {A : Nat → Prop} (hts : ∀ w ∈ lw_tbl, w.before #[Value.ref b] s = true) (hgv : (Jvm.Cond.and given_1 narrow_1).before #[Value.ref b] s = true) (hA : ∀ a : Nat, a < s.heap.size → ¬ A a) : ∃ q : Nat × Nat, vk_R RX14 158 "say" q.1 s ∧ zSt q.1 q.2 3 [115, 97, 121] A s s.heap :=
  zsk0 [115, 97, 121] (by decide) (hts (.stringRef RX14 158 "say") (List.mem_of_getElem? (i := 1568) (by decide +kernel))) (flat_of_before _ hgv (.exactly (.string "LessonMakerModel" 158) "java/lang/String") (by decide +kernel)) (flat_of_before _ hgv (.eq (.field (.string "LessonMakerModel" 158) "java/lang/String" "coder" "B") (.int 0)) (by decide +kernel)) (flat_of_before _ hgv (.arrayOf (.field (.string "LessonMakerModel" 158) "java/lang/String" "value" "[B") .byte) (by decide +kernel)) (flat_of_before _ hgv (.eq (.length (.field (.string "LessonMakerModel" 158) "java/lang/String" "value" "[B")) (.int 3)) (by decide +kernel)) (fun j hj => match j, hj with
    | 0, _ => (flat_of_before _ hgv (.eq (.elem (.field (.string "LessonMakerModel" 158) "java/lang/String" "value" "[B") (.int 0)) (.int 115)) (by decide +kernel))
    | 1, _ => (flat_of_before _ hgv (.eq (.elem (.field (.string "LessonMakerModel" 158) "java/lang/String" "value" "[B") (.int 1)) (.int 97)) (by decide +kernel))
    | 2, _ => (flat_of_before _ hgv (.eq (.elem (.field (.string "LessonMakerModel" 158) "java/lang/String" "value" "[B") (.int 2)) (.int 121)) (by decide +kernel))
    | j + 3, hj => by omega) hA
set_option maxRecDepth 100000 in
theorem zsk_8 {b : Nat} {s : State} {A : Nat → Prop} (hts : ∀ w ∈ lw_tbl, w.before #[Value.ref b] s = true) (hgv : (Jvm.Cond.and given_1 narrow_1).before #[Value.ref b] s = true) (hA : ∀ a : Nat, a < s.heap.size → ¬ A a) : ∃ q : Nat × Nat, vk_R RX14 160 "return" q.1 s ∧ zSt q.1 q.2 6 [114, 101, 116, 117, 114, 110] A s s.heap :=
  zsk0 [114, 101, 116, 117, 114, 110] (by decide) (hts (.stringRef RX14 160 "return") (List.mem_of_getElem? (i := 1569) (by decide +kernel))) (flat_of_before _ hgv (.exactly (.string "LessonMakerModel" 160) "java/lang/String") (by decide +kernel)) (flat_of_before _ hgv (.eq (.field (.string "LessonMakerModel" 160) "java/lang/String" "coder" "B") (.int 0)) (by decide +kernel)) (flat_of_before _ hgv (.arrayOf (.field (.string "LessonMakerModel" 160) "java/lang/String" "value" "[B") .byte) (by decide +kernel)) (flat_of_before _ hgv (.eq (.length (.field (.string "LessonMakerModel" 160) "java/lang/String" "value" "[B")) (.int 6)) (by decide +kernel)) (fun j hj => match j, hj with
    | 0, _ => (flat_of_before _ hgv (.eq (.elem (.field (.string "LessonMakerModel" 160) "java/lang/String" "value" "[B") (.int 0)) (.int 114)) (by decide +kernel))
    | 1, _ => (flat_of_before _ hgv (.eq (.elem (.field (.string "LessonMakerModel" 160) "java/lang/String" "value" "[B") (.int 1)) (.int 101)) (by decide +kernel))
    | 2, _ => (flat_of_before _ hgv (.eq (.elem (.field (.string "LessonMakerModel" 160) "java/lang/String" "value" "[B") (.int 2)) (.int 116)) (by decide +kernel))
    | 3, _ => (flat_of_before _ hgv (.eq (.elem (.field (.string "LessonMakerModel" 160) "java/lang/String" "value" "[B") (.int 3)) (.int 117)) (by decide +kernel))
    | 4, _ => (flat_of_before _ hgv (.eq (.elem (.field (.string "LessonMakerModel" 160) "java/lang/String" "value" "[B") (.int 4)) (.int 114)) (by decide +kernel))
    | 5, _ => (flat_of_before _ hgv (.eq (.elem (.field (.string "LessonMakerModel" 160) "java/lang/String" "value" "[B") (.int 5)) (.int 110)) (by decide +kernel))
    | j + 6, hj => by omega) hA
set_option maxRecDepth 100000 in
theorem zsk_9 {b : Nat} {s : State} {A : Nat → Prop} (hts : ∀ w ∈ lw_tbl, w.before #[Value.ref b] s = true) (hgv : (Jvm.Cond.and given_1 narrow_1).before #[Value.ref b] s = true) (hA : ∀ a : Nat, a < s.heap.size → ¬ A a) : ∃ q : Nat × Nat, vk_R RX14 162 "if" q.1 s ∧ zSt q.1 q.2 2 [105, 102] A s s.heap :=
  zsk0 [105, 102] (by decide) (hts (.stringRef RX14 162 "if") (List.mem_of_getElem? (i := 1570) (by decide +kernel))) (flat_of_before _ hgv (.exactly (.string "LessonMakerModel" 162) "java/lang/String") (by decide +kernel)) (flat_of_before _ hgv (.eq (.field (.string "LessonMakerModel" 162) "java/lang/String" "coder" "B") (.int 0)) (by decide +kernel)) (flat_of_before _ hgv (.arrayOf (.field (.string "LessonMakerModel" 162) "java/lang/String" "value" "[B") .byte) (by decide +kernel)) (flat_of_before _ hgv (.eq (.length (.field (.string "LessonMakerModel" 162) "java/lang/String" "value" "[B")) (.int 2)) (by decide +kernel)) (fun j hj => match j, hj with
    | 0, _ => (flat_of_before _ hgv (.eq (.elem (.field (.string "LessonMakerModel" 162) "java/lang/String" "value" "[B") (.int 0)) (.int 105)) (by decide +kernel))
    | 1, _ => (flat_of_before _ hgv (.eq (.elem (.field (.string "LessonMakerModel" 162) "java/lang/String" "value" "[B") (.int 1)) (.int 102)) (by decide +kernel))
    | j + 2, hj => by omega) hA
set_option maxRecDepth 100000 in
theorem zsk_10 {b : Nat} {s : State} {A : Nat → Prop} (hts : ∀ w ∈ lw_tbl, w.before #[Value.ref b] s = true) (hgv : (Jvm.Cond.and given_1 narrow_1).before #[Value.ref b] s = true) (hA : ∀ a : Nat, a < s.heap.size → ¬ A a) : ∃ q : Nat × Nat, vk_R RX14 164 "else" q.1 s ∧ zSt q.1 q.2 4 [101, 108, 115, 101] A s s.heap :=
  zsk0 [101, 108, 115, 101] (by decide) (hts (.stringRef RX14 164 "else") (List.mem_of_getElem? (i := 1571) (by decide +kernel))) (flat_of_before _ hgv (.exactly (.string "LessonMakerModel" 164) "java/lang/String") (by decide +kernel)) (flat_of_before _ hgv (.eq (.field (.string "LessonMakerModel" 164) "java/lang/String" "coder" "B") (.int 0)) (by decide +kernel)) (flat_of_before _ hgv (.arrayOf (.field (.string "LessonMakerModel" 164) "java/lang/String" "value" "[B") .byte) (by decide +kernel)) (flat_of_before _ hgv (.eq (.length (.field (.string "LessonMakerModel" 164) "java/lang/String" "value" "[B")) (.int 4)) (by decide +kernel)) (fun j hj => match j, hj with
    | 0, _ => (flat_of_before _ hgv (.eq (.elem (.field (.string "LessonMakerModel" 164) "java/lang/String" "value" "[B") (.int 0)) (.int 101)) (by decide +kernel))
    | 1, _ => (flat_of_before _ hgv (.eq (.elem (.field (.string "LessonMakerModel" 164) "java/lang/String" "value" "[B") (.int 1)) (.int 108)) (by decide +kernel))
    | 2, _ => (flat_of_before _ hgv (.eq (.elem (.field (.string "LessonMakerModel" 164) "java/lang/String" "value" "[B") (.int 2)) (.int 115)) (by decide +kernel))
    | 3, _ => (flat_of_before _ hgv (.eq (.elem (.field (.string "LessonMakerModel" 164) "java/lang/String" "value" "[B") (.int 3)) (.int 101)) (by decide +kernel))
    | j + 4, hj => by omega) hA
set_option maxRecDepth 100000 in
theorem zsk_11 {b : Nat} {s : State} {A : Nat → Prop} (hts : ∀ w ∈ lw_tbl, w.before #[Value.ref b] s = true) (hgv : (Jvm.Cond.and given_1 narrow_1).before #[Value.ref b] s = true) (hA : ∀ a : Nat, a < s.heap.size → ¬ A a) : ∃ q : Nat × Nat, vk_R RX14 166 "while" q.1 s ∧ zSt q.1 q.2 5 [119, 104, 105, 108, 101] A s s.heap :=
  zsk0 [119, 104, 105, 108, 101] (by decide) (hts (.stringRef RX14 166 "while") (List.mem_of_getElem? (i := 1572) (by decide +kernel))) (flat_of_before _ hgv (.exactly (.string "LessonMakerModel" 166) "java/lang/String") (by decide +kernel)) (flat_of_before _ hgv (.eq (.field (.string "LessonMakerModel" 166) "java/lang/String" "coder" "B") (.int 0)) (by decide +kernel)) (flat_of_before _ hgv (.arrayOf (.field (.string "LessonMakerModel" 166) "java/lang/String" "value" "[B") .byte) (by decide +kernel)) (flat_of_before _ hgv (.eq (.length (.field (.string "LessonMakerModel" 166) "java/lang/String" "value" "[B")) (.int 5)) (by decide +kernel)) (fun j hj => match j, hj with
    | 0, _ => (flat_of_before _ hgv (.eq (.elem (.field (.string "LessonMakerModel" 166) "java/lang/String" "value" "[B") (.int 0)) (.int 119)) (by decide +kernel))
    | 1, _ => (flat_of_before _ hgv (.eq (.elem (.field (.string "LessonMakerModel" 166) "java/lang/String" "value" "[B") (.int 1)) (.int 104)) (by decide +kernel))
    | 2, _ => (flat_of_before _ hgv (.eq (.elem (.field (.string "LessonMakerModel" 166) "java/lang/String" "value" "[B") (.int 2)) (.int 105)) (by decide +kernel))
    | 3, _ => (flat_of_before _ hgv (.eq (.elem (.field (.string "LessonMakerModel" 166) "java/lang/String" "value" "[B") (.int 3)) (.int 108)) (by decide +kernel))
    | 4, _ => (flat_of_before _ hgv (.eq (.elem (.field (.string "LessonMakerModel" 166) "java/lang/String" "value" "[B") (.int 4)) (.int 101)) (by decide +kernel))
    | j + 5, hj => by omega) hA
set_option maxRecDepth 100000 in
theorem zE0 {b : Nat} {s : State} {A : Nat → Prop} (hts : ∀ w ∈ lw_tbl, w.before #[Value.ref b] s = true) (hgv : (Jvm.Cond.and given_1 narrow_1).before #[Value.ref b] s = true) (hA : ∀ a : Nat, a < s.heap.size → ¬ A a) : ∃ aK aV : Nat → Nat, ∀ D : va_G, D.2 99 = aK → D.2 98 = aV → zE D A s s.heap := by
  obtain ⟨q0, h0⟩ := zsk_0 hts hgv hA
  obtain ⟨q1, h1⟩ := zsk_1 hts hgv hA
  obtain ⟨q2, h2⟩ := zsk_2 hts hgv hA
  obtain ⟨q3, h3⟩ := zsk_3 hts hgv hA
  obtain ⟨q4, h4⟩ := zsk_4 hts hgv hA
  obtain ⟨q5, h5⟩ := zsk_5 hts hgv hA
  obtain ⟨q6, h6⟩ := zsk_6 hts hgv hA
  obtain ⟨q7, h7⟩ := zsk_7 hts hgv hA
  obtain ⟨q8, h8⟩ := zsk_8 hts hgv hA
  obtain ⟨q9, h9⟩ := zsk_9 hts hgv hA
  obtain ⟨q10, h10⟩ := zsk_10 hts hgv hA
  obtain ⟨q11, h11⟩ := zsk_11 hts hgv hA
  refine ⟨fun i => [q0.1, q1.1, q2.1, q3.1, q4.1, q5.1, q6.1, q7.1, q8.1, q9.1, q10.1, q11.1].getD i 0, fun i => [q0.2, q1.2, q2.2, q3.2, q4.2, q5.2, q6.2, q7.2, q8.2, q9.2, q10.2, q11.2].getD i 0, fun D e1 e2 => ⟨z_N0 hts hgv, fun w h => va_Nw.of (zNw_on w h) (hts w (zNw_in w h)), z_st0 hts hgv hA, fun i q hq => ?_, va_Zof (hts (.laysStatic "java/lang/String" "COMPACT_STRINGS" "Z") (List.mem_of_getElem? (i := 603) (by decide +kernel))) (hts (.initialized "java/lang/String") (List.mem_of_getElem? (i := 114) (by decide +kernel))) (va_eqi (flat_of_before _ hgv (.eq (.static "java/lang/String" "COMPACT_STRINGS" "Z") (.int 1)) (by decide +kernel))) hA, va_Zqof (hts (.laysStatic "jdk/internal/util/Preconditions" "SIOOBE_FORMATTER" "Ljava/util/function/BiFunction;") (List.mem_of_getElem? (i := 619) (by decide +kernel))) (hts (.initialized "jdk/internal/util/Preconditions") (List.mem_of_getElem? (i := 116) (by decide +kernel))) (flat_of_before _ hgv (.isRef (.static "jdk/internal/util/Preconditions" "SIOOBE_FORMATTER" "Ljava/util/function/BiFunction;")) (by decide +kernel)) hA, ?_⟩⟩
  · rw [e1, e2]
    match i, hq with
    | 0, hq => cases hq; exact h0
    | 1, hq => cases hq; exact h1
    | 2, hq => cases hq; exact h2
    | 3, hq => cases hq; exact h3
    | 4, hq => cases hq; exact h4
    | 5, hq => cases hq; exact h5
    | 6, hq => cases hq; exact h6
    | 7, hq => cases hq; exact h7
    | 8, hq => cases hq; exact h8
    | 9, hq => cases hq; exact h9
    | 10, hq => cases hq; exact h10
    | 11, hq => cases hq; exact h11
    | i + 12, hq => simp [zStrs] at hq
  · obtain ⟨a, h9⟩ := z_ex (flat_of_before _ hgv (.exactly (.string "LessonMaker" 140) "java/lang/String") (by decide +kernel))
    exact ⟨a, vk_R.of (hts (.stringRef RX10 140 "no such byte of the name") (List.mem_of_getElem? (i := 1156) (by decide +kernel))) h9⟩
