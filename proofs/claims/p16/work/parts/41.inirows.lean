/-! Words of constructors; making an object; putting a field of the object that is being made. -/
def zc_ini : List Cond := [.methodLink RX8 3 objectInit, .instanceMethod objectInit, .code objectInit ⟨#[0xb1]⟩ 1 none, .arrayClass .byte, .fieldLink RX8 9 "LessonMaker$Tokens" "text" "[B", .arrayClass .int, .fieldLink RX8 15 "LessonMaker$Tokens" "kinds" "[I", .fieldLink RX8 19 "LessonMaker$Tokens" "places" "[I", .fieldLink RX8 22 "LessonMaker$Tokens" "widths" "[I", .methodLink RX1 3 objectInit, .fieldLink RX1 11 "LessonMaker$Code" "acts" "[I", .fieldLink RX1 15 "LessonMaker$Code" "numbers" "[I", .fieldLink RX1 18 "LessonMaker$Code" "lines" "[I", .methodLink RX2 1 objectInit, .fieldLink RX2 9 "LessonMaker$Function" "places" "[I", .methodLink RX4 1 objectInit, .methodLink RX7 3 objectInit, .fieldLink RX7 11 "LessonMaker$Reader" "callNames" "[I", .fieldLink RX7 15 "LessonMaker$Reader" "callSums" "[I", .fieldLink RX7 18 "LessonMaker$Reader" "callActs" "[I", .fieldLink RX7 21 "LessonMaker$Reader" "callers" "[I", .methodLink RX5 5 objectInit, .fieldLink RX5 11 "LessonMaker$Machine" "said" "[I", .fieldLink RX5 15 "LessonMaker$Machine" "trace" "[I", .fieldLink RX5 18 "LessonMaker$Machine" "places" "[I", .fieldLink RX5 21 "LessonMaker$Machine" "backs" "[I", .fieldLink RX5 24 "LessonMaker$Machine" "stack" "[I", .methodLink RX0 5 objectInit, .fieldLink RX0 11 "LessonMaker$Chapters" "best" "[I", .fieldLink RX0 17 "LessonMaker$Chapters" "order" "[I", .methodLink RX9 3 objectInit, .arrayClass .long, .fieldLink RX9 11 "LessonMaker$Told" "covers" "[J", .fieldLink RX9 15 "LessonMaker$Told" "chosen" "[I", .fieldLink RX9 19 "LessonMaker$Told" "chosenOf" "I", .methodLink RX3 3 objectInit, .fieldLink RX3 11 "LessonMaker$Growth" "states" "[I", .fieldLink RX3 17 "LessonMaker$Growth" "reaches" "[I", .methodLink RX12 3 objectInit, .fieldLink RX12 9 "LessonMakerModel$Run" "said" "[I", .fieldLink RX12 15 "LessonMakerModel$Run" "trace" "[I", .fieldLink RX12 18 "LessonMakerModel$Run" "places" "[I", .methodLink RX11 3 objectInit, .fieldLink RX11 9 "LessonMakerModel$Program" "name" "[J", .fieldLink RX11 15 "LessonMakerModel$Program" "nameSize" "[I", .fieldLink RX11 19 "LessonMakerModel$Program" "has" "[I", .fieldLink RX11 22 "LessonMakerModel$Program" "first" "[I", .fieldLink RX11 25 "LessonMakerModel$Program" "many" "[I", .fieldLink RX11 28 "LessonMakerModel$Program" "calls" "[I", .fieldLink RX11 31 "LessonMakerModel$Program" "textFrom" "[I", .fieldLink RX11 34 "LessonMakerModel$Program" "textTo" "[I", .fieldLink RX11 37 "LessonMakerModel$Program" "place" "[I", .fieldLink RX11 40 "LessonMakerModel$Program" "kind" "[I", .fieldLink RX11 43 "LessonMakerModel$Program" "function" "[I", .fieldLink RX11 46 "LessonMakerModel$Program" "at" "[I", .fieldLink RX11 49 "LessonMakerModel$Program" "within" "[I", .fieldLink RX11 52 "LessonMakerModel$Program" "to" "[I", .fieldLink RX11 55 "LessonMakerModel$Program" "next" "[I", .fieldLink RX11 58 "LessonMakerModel$Program" "around" "[I", .fieldLink RX11 61 "LessonMakerModel$Program" "body" "[I", .fieldLink RX11 64 "LessonMakerModel$Program" "other" "[I", .fieldLink RX11 67 "LessonMakerModel$Program" "from" "[I", .fieldLink RX11 70 "LessonMakerModel$Program" "end" "[I", .fieldLink RX11 73 "LessonMakerModel$Program" "sign" "[I", .fieldLink RX11 76 "LessonMakerModel$Program" "value" "[I", .fieldLink RX11 79 "LessonMakerModel$Program" "many2" "[I", .fieldLink RX11 82 "LessonMakerModel$Program" "spot" "[I", .fieldLink RX11 85 "LessonMakerModel$Program" "called" "[J", .fieldLink RX11 88 "LessonMakerModel$Program" "text" "[B", .methodLink RX6 3 objectInit, .initialized RX8, .methodLink RX6 11 yX8_init, .instanceMethod yX8_init, .classLink RX6 9 RX8, .instantiable RX8 6, .fieldLink RX6 12 "LessonMaker$Program" "tokens" "LLessonMaker$Tokens;", .initialized RX1, .methodLink RX6 20 yX1_init, .instanceMethod yX1_init, .classLink RX6 18 RX1, .instantiable RX1 4, .fieldLink RX6 21 "LessonMaker$Program" "code" "LLessonMaker$Code;", .classLink RX6 25 RX2, .fieldLink RX6 27 "LessonMaker$Program" "functions" "[LLessonMaker$Function;", .initialized RX2, .methodLink RX6 31 yX2_init, .instanceMethod yX2_init, .instantiable RX2 9, .classLink RX6 32 RX4, .fieldLink RX6 34 "LessonMaker$Program" "lines" "[LLessonMaker$Line;", .initialized RX4, .instanceMethod yX4_init, .instantiable RX4 4, .methodLink RX10 1 objectInit, .fieldLink RX10 9 "LessonMaker" "tape" "[B", .initialized RX6, .methodLink RX10 15 yX6_init, .instanceMethod yX6_init, .classLink RX10 13 RX6, .instantiable RX6 6, .fieldLink RX10 16 "LessonMaker" "now" "LLessonMaker$Program;", .fieldLink RX10 20 "LessonMaker" "spare" "LLessonMaker$Program;", .initialized RX7, .methodLink RX10 25 yX7_init, .instanceMethod yX7_init, .classLink RX10 23 RX7, .instantiable RX7 12, .fieldLink RX10 26 "LessonMaker" "reader" "LLessonMaker$Reader;", .initialized RX5, .methodLink RX10 32 yX5_init, .instanceMethod yX5_init, .classLink RX10 30 RX5, .instantiable RX5 19, .fieldLink RX10 33 "LessonMaker" "latest" "LLessonMaker$Machine;", .fieldLink RX10 37 "LessonMaker" "truth" "LLessonMaker$Machine;", .fieldLink RX10 40 "LessonMaker" "trial" "LLessonMaker$Machine;", .initialized RX0, .methodLink RX10 45 yX0_init, .instanceMethod yX0_init, .classLink RX10 43 RX0, .instantiable RX0 3, .fieldLink RX10 46 "LessonMaker" "chapters" "LLessonMaker$Chapters;", .initialized RX9, .methodLink RX10 52 yX9_init, .instanceMethod yX9_init, .classLink RX10 50 RX9, .instantiable RX9 5, .fieldLink RX10 53 "LessonMaker" "told" "LLessonMaker$Told;", .initialized RX3, .methodLink RX10 59 yX3_init, .instanceMethod yX3_init, .classLink RX10 57 RX3, .instantiable RX3 3, .fieldLink RX10 60 "LessonMaker" "growth" "LLessonMaker$Growth;", .methodLink RX14 1 objectInit, .fieldLink RX14 9 "LessonMakerModel" "where" "I", .initialized RX11, .instanceMethod yX11_init, .classLink RX14 13 RX11, .instantiable RX11 30, .fieldLink RX14 16 "LessonMakerModel" "p" "LLessonMakerModel$Program;", .fieldLink RX14 20 "LessonMakerModel" "past" "LLessonMakerModel$Program;", .fieldLink RX14 23 "LessonMakerModel" "spare" "LLessonMakerModel$Program;", .initialized RX13, .methodLink RX14 28 yX13_init, .instanceMethod yX13_init, .classLink RX14 26 RX13, .instantiable RX13 8, .fieldLink RX14 29 "LessonMakerModel" "stop" "LLessonMakerModel$Stop;", .fieldLink RX14 33 "LessonMakerModel" "tape" "[B", .initialized RX12, .instanceMethod yX12_init, .classLink RX14 37 RX12, .instantiable RX12 10, .fieldLink RX14 40 "LessonMakerModel" "latest" "LLessonMakerModel$Run;", .fieldLink RX14 44 "LessonMakerModel" "work" "LLessonMakerModel$Run;", .fieldLink RX14 47 "LessonMakerModel" "pile" "[I", .fieldLink RX14 51 "LessonMakerModel" "true1" "[I", .fieldLink RX14 54 "LessonMakerModel" "least" "[I", .fieldLink RX14 57 "LessonMakerModel" "runOf" "[I", .fieldLink RX14 60 "LessonMakerModel" "runX" "[I", .fieldLink RX14 63 "LessonMakerModel" "runY" "[I", .fieldLink RX14 66 "LessonMakerModel" "runZ" "[I", .fieldLink RX14 69 "LessonMakerModel" "picked" "[I", .fieldLink RX14 72 "LessonMakerModel" "shows" "[J", .methodLink RT 1 objectInit, .fieldLink RT 7 "java/lang/Throwable" "cause" "Ljava/lang/Throwable;", .fieldLink RT 13 "java/lang/Throwable" "UNASSIGNED_STACK" "[Ljava/lang/StackTraceElement;", .fieldLink RT 17 "java/lang/Throwable" "stackTrace" "[Ljava/lang/StackTraceElement;", .fieldLink RT 20 "java/lang/Throwable" "SUPPRESSED_SENTINEL" "Ljava/util/List;", .fieldLink RT 24 "java/lang/Throwable" "suppressedExceptions" "Ljava/util/List;", .fieldLink RT 31 "java/lang/Throwable" "detailMessage" "Ljava/lang/String;", .code yT_init cT_init 5 none, .initialized RT, .methodLink RE 16 yT_init, .instanceMethod yT_init, .code yE_init cE_init 5 none, .initialized RE, .methodLink RR 16 yE_init, .instanceMethod yE_init, .code yR_init cR_init 5 none, .initialized RR, .methodLink RX13 1 yR_init, .instanceMethod yR_init, .code yX8_init cX8_init 1 none, .code yX1_init cX1_init 1 none, .code yX2_init cX2_init 1 none, .code yX4_init cX4_init 1 none, .code yX7_init cX7_init 1 none, .code yX5_init cX5_init 1 none, .code yX0_init cX0_init 1 none, .code yX9_init cX9_init 1 none, .code yX3_init cX3_init 1 none, .code yX12_init cX12_init 1 none, .code yX11_init cX11_init 1 none, .code yX6_init cX6_init 2 none, .code yX10_init cX10_init 1 none, .initialized RX10, .code yX13_init cX13_init 1 none, .code yX14_init cX14_init 1 none, .initialized RX14]
def zGI : List Cond := zc_ini ++ zG
theorem zmi {w : Cond} (h : w ∈ zc_ini) : w ∈ zGI := List.mem_append_left _ h
theorem zgi_ini : ∀ w ∈ zc_ini, goodWord w = true := by decide +kernel
theorem zgi_all : ∀ w ∈ zGI, goodWord w = true := fun w h => (List.mem_append.mp h).elim (zgi_ini w) (zg_all w)
theorem ziin_0 : ∀ w ∈ u_ws RX0 TX0 3, w ∈ zGI := fun w h => List.mem_append_right _ (zin_0 w h)
theorem ziin_1 : ∀ w ∈ u_ws RX1 TX1 4, w ∈ zGI := fun w h => List.mem_append_right _ (zin_1 w h)
theorem ziin_2 : ∀ w ∈ u_ws RX2 TX2 9, w ∈ zGI := fun w h => List.mem_append_right _ (zin_2 w h)
theorem ziin_3 : ∀ w ∈ u_ws RX3 TX3 3, w ∈ zGI := fun w h => List.mem_append_right _ (zin_3 w h)
theorem ziin_4 : ∀ w ∈ u_ws RX4 TX4 4, w ∈ zGI := fun w h => List.mem_append_right _ (zin_4 w h)
theorem ziin_5 : ∀ w ∈ u_ws RX5 TX5 19, w ∈ zGI := fun w h => List.mem_append_right _ (zin_5 w h)
theorem ziin_6 : ∀ w ∈ u_ws RX6 TX6 6, w ∈ zGI := fun w h => List.mem_append_right _ (zin_6 w h)
theorem ziin_7 : ∀ w ∈ u_ws RX7 TX7 12, w ∈ zGI := fun w h => List.mem_append_right _ (zin_7 w h)
theorem ziin_8 : ∀ w ∈ u_ws RX8 TX8 6, w ∈ zGI := fun w h => List.mem_append_right _ (zin_8 w h)
theorem ziin_9 : ∀ w ∈ u_ws RX9 TX9 5, w ∈ zGI := fun w h => List.mem_append_right _ (zin_9 w h)
theorem ziin_10 : ∀ w ∈ u_ws RX10 TX10 14, w ∈ zGI := fun w h => List.mem_append_right _ (zin_10 w h)
theorem ziin_11 : ∀ w ∈ u_ws RX11 TX11 30, w ∈ zGI := fun w h => List.mem_append_right _ (zin_11 w h)
theorem ziin_12 : ∀ w ∈ u_ws RX12 TX12 10, w ∈ zGI := fun w h => List.mem_append_right _ (zin_12 w h)
theorem ziin_13 : ∀ w ∈ u_ws RX13 TX13 8, w ∈ zGI := fun w h => List.mem_append_right _ (zin_13 w h)
theorem ziin_14 : ∀ w ∈ u_ws RX14 TX14 40, w ∈ zGI := fun w h => List.mem_append_right _ (zin_14 w h)
abbrev zwi_8 : List Cond := .code yX8_init cX8_init 1 none :: zGI
theorem zgi_8 : GoodIn zGI zwi_8 := fun w hw => by
  have h : w ∈ zGI := (List.mem_cons.mp hw).elim (fun e => by rw [e]; exact (zmi (List.mem_of_getElem? (i := 184) rfl))) id
  exact ⟨h, z_gw (zgi_all w h)⟩
abbrev zwi_1 : List Cond := .code yX1_init cX1_init 1 none :: zGI
theorem zgi_1 : GoodIn zGI zwi_1 := fun w hw => by
  have h : w ∈ zGI := (List.mem_cons.mp hw).elim (fun e => by rw [e]; exact (zmi (List.mem_of_getElem? (i := 185) rfl))) id
  exact ⟨h, z_gw (zgi_all w h)⟩
abbrev zwi_2 : List Cond := .code yX2_init cX2_init 1 none :: zGI
theorem zgi_2 : GoodIn zGI zwi_2 := fun w hw => by
  have h : w ∈ zGI := (List.mem_cons.mp hw).elim (fun e => by rw [e]; exact (zmi (List.mem_of_getElem? (i := 186) rfl))) id
  exact ⟨h, z_gw (zgi_all w h)⟩
abbrev zwi_4 : List Cond := .code yX4_init cX4_init 1 none :: zGI
theorem zgi_4 : GoodIn zGI zwi_4 := fun w hw => by
  have h : w ∈ zGI := (List.mem_cons.mp hw).elim (fun e => by rw [e]; exact (zmi (List.mem_of_getElem? (i := 187) rfl))) id
  exact ⟨h, z_gw (zgi_all w h)⟩
abbrev zwi_7 : List Cond := .code yX7_init cX7_init 1 none :: zGI
theorem zgi_7 : GoodIn zGI zwi_7 := fun w hw => by
  have h : w ∈ zGI := (List.mem_cons.mp hw).elim (fun e => by rw [e]; exact (zmi (List.mem_of_getElem? (i := 188) rfl))) id
  exact ⟨h, z_gw (zgi_all w h)⟩
abbrev zwi_5 : List Cond := .code yX5_init cX5_init 1 none :: zGI
theorem zgi_5 : GoodIn zGI zwi_5 := fun w hw => by
  have h : w ∈ zGI := (List.mem_cons.mp hw).elim (fun e => by rw [e]; exact (zmi (List.mem_of_getElem? (i := 189) rfl))) id
  exact ⟨h, z_gw (zgi_all w h)⟩
abbrev zwi_0 : List Cond := .code yX0_init cX0_init 1 none :: zGI
theorem zgi_0 : GoodIn zGI zwi_0 := fun w hw => by
  have h : w ∈ zGI := (List.mem_cons.mp hw).elim (fun e => by rw [e]; exact (zmi (List.mem_of_getElem? (i := 190) rfl))) id
  exact ⟨h, z_gw (zgi_all w h)⟩
abbrev zwi_9 : List Cond := .code yX9_init cX9_init 1 none :: zGI
theorem zgi_9 : GoodIn zGI zwi_9 := fun w hw => by
  have h : w ∈ zGI := (List.mem_cons.mp hw).elim (fun e => by rw [e]; exact (zmi (List.mem_of_getElem? (i := 191) rfl))) id
  exact ⟨h, z_gw (zgi_all w h)⟩
abbrev zwi_3 : List Cond := .code yX3_init cX3_init 1 none :: zGI
theorem zgi_3 : GoodIn zGI zwi_3 := fun w hw => by
  have h : w ∈ zGI := (List.mem_cons.mp hw).elim (fun e => by rw [e]; exact (zmi (List.mem_of_getElem? (i := 192) rfl))) id
  exact ⟨h, z_gw (zgi_all w h)⟩
abbrev zwi_12 : List Cond := .code yX12_init cX12_init 1 none :: zGI
theorem zgi_12 : GoodIn zGI zwi_12 := fun w hw => by
  have h : w ∈ zGI := (List.mem_cons.mp hw).elim (fun e => by rw [e]; exact (zmi (List.mem_of_getElem? (i := 193) rfl))) id
  exact ⟨h, z_gw (zgi_all w h)⟩
abbrev zwi_11 : List Cond := .code yX11_init cX11_init 1 none :: zGI
theorem zgi_11 : GoodIn zGI zwi_11 := fun w hw => by
  have h : w ∈ zGI := (List.mem_cons.mp hw).elim (fun e => by rw [e]; exact (zmi (List.mem_of_getElem? (i := 194) rfl))) id
  exact ⟨h, z_gw (zgi_all w h)⟩
abbrev zwi_6 : List Cond := .code yX6_init cX6_init 2 none :: zGI
theorem zgi_6 : GoodIn zGI zwi_6 := fun w hw => by
  have h : w ∈ zGI := (List.mem_cons.mp hw).elim (fun e => by rw [e]; exact (zmi (List.mem_of_getElem? (i := 195) rfl))) id
  exact ⟨h, z_gw (zgi_all w h)⟩
abbrev zwi_10 : List Cond := .code yX10_init cX10_init 1 none :: zGI
theorem zgi_10 : GoodIn zGI zwi_10 := fun w hw => by
  have h : w ∈ zGI := (List.mem_cons.mp hw).elim (fun e => by rw [e]; exact (zmi (List.mem_of_getElem? (i := 196) rfl))) id
  exact ⟨h, z_gw (zgi_all w h)⟩
abbrev zwi_14 : List Cond := .code yX14_init cX14_init 1 none :: zGI
theorem zgi_14 : GoodIn zGI zwi_14 := fun w hw => by
  have h : w ∈ zGI := (List.mem_cons.mp hw).elim (fun e => by rw [e]; exact (zmi (List.mem_of_getElem? (i := 199) rfl))) id
  exact ⟨h, z_gw (zgi_all w h)⟩
theorem zgi_13 : GoodIn zGI z_wX13_init := fun w hw => by
  have h : w ∈ zGI := (List.mem_cons.mp hw).elim (fun e => by rw [e]; exact (zmi (List.mem_of_getElem? (i := 198) rfl))) (fun h => (List.mem_append.mp h).elim (fun h => by
    simp only [List.mem_cons, List.not_mem_nil, or_false] at h
    rcases h with rfl | rfl | rfl | rfl | rfl | rfl | rfl | rfl | rfl | rfl | rfl | rfl | rfl | rfl | rfl | rfl | rfl | rfl | rfl | rfl | rfl
    · exact (zmi (List.mem_of_getElem? (i := 165) rfl))
    · exact (zmi (List.mem_of_getElem? (i := 1) rfl))
    · exact (zmi (List.mem_of_getElem? (i := 2) rfl))
    · exact (zmi (List.mem_of_getElem? (i := 166) rfl))
    · exact (zmi (List.mem_of_getElem? (i := 167) rfl))
    · exact (zmi (List.mem_of_getElem? (i := 168) rfl))
    · exact (zmi (List.mem_of_getElem? (i := 169) rfl))
    · exact (zmi (List.mem_of_getElem? (i := 170) rfl))
    · exact (zmi (List.mem_of_getElem? (i := 171) rfl))
    · exact (zmi (List.mem_of_getElem? (i := 172) rfl))
    · exact (zmi (List.mem_of_getElem? (i := 173) rfl))
    · exact (zmi (List.mem_of_getElem? (i := 174) rfl))
    · exact (zmi (List.mem_of_getElem? (i := 175) rfl))
    · exact (zmi (List.mem_of_getElem? (i := 176) rfl))
    · exact (zmi (List.mem_of_getElem? (i := 177) rfl))
    · exact (zmi (List.mem_of_getElem? (i := 178) rfl))
    · exact (zmi (List.mem_of_getElem? (i := 179) rfl))
    · exact (zmi (List.mem_of_getElem? (i := 180) rfl))
    · exact (zmi (List.mem_of_getElem? (i := 181) rfl))
    · exact (zmi (List.mem_of_getElem? (i := 182) rfl))
    · exact (zmi (List.mem_of_getElem? (i := 183) rfl))) (ziin_13 w))
  exact ⟨h, z_gw (zgi_all w h)⟩
section
variable {p : Program} {l : Launch} {e : Env} {R : Room} {s : State} {m : MethodId} {args : Array Value} {below : List Frame} {meth : Method} {c : Code} {H : Heap} {locs : List Loc} {cells slots : Nat} {Q : State → Prop}
variable {cc : ByteArray} {pc nL : Nat} {ls : Array Slot} {rest st0 : List Value} {D : va_G} {k : Nat → ClassId} {Γ : Nat → Option Nat} {L : List Nat} {F : Nat → va_E} {Ts : List Cond} {own : String} {A : Nat → Prop}
theorem zj_putn {own ref C : String} {T : u_T} {N t h0 index : Nat} (Y : zY p m c cc nL s args Ts own D k A) (h : zU D k A s Γ L F H locs) (h0L : h0 ∈ L) (h0Γ : Γ h0 = none) {fs : List Value} (hF : F h0 = .inr (t, fs)) (hin : ∀ w ∈ u_ws C T N, w ∈ Ts) (ty0 : Nat → FieldType) (hty : ∀ k, k < N → parseFieldDescriptor (T k).2.2.1 = some (ty0 k)) (hnm : ∀ a, a < N → ∀ b, b < N → a ≠ b → (T a).2.1 ≠ (T b).2.1) (hc : z_Cl[t]? = some (C, T, N)) (j : Nat) (hj : j < N) (hlink : Cond.fieldLink own index ref (T j).2.1 (T j).2.2.1 ∈ Ts) (hsame : ∀ x, s.fieldFound? (T j).1 (T j).2.1 (T j).2.2.1 = some x → s.fieldFound? ref (T j).2.1 (T j).2.2.1 = some x) (hfin : (T j).2.2.2 = false) {v : Value} (hn : narrow (ty0 j) v = v) (hfit : fits (ty0 j) v = true) (hl : j < fs.length) (hdg : decode cc pc = .ok (.putfield index, 3))
    (kk : ∀ (F' : Nat → va_E) (H1 : Heap) (locs1 : List Loc), F' h0 = .inr (t, fs.set j v) → (∀ a, a ≠ h0 → F' a = F a) → zU D k A s Γ L F' H1 locs1 → W p l e R s m args below meth c H1 locs1 cells slots Q (F0 m (pc + 3) ls rest)) : W p l e R s m args below meth c H locs cells slots Q (F0 m pc ls (v :: .ref h0 :: rest)) := by
  obtain ⟨⟨hx, hb, hml, hown, hts⟩, hK, hN0, hZ, hA⟩ := Y
  obtain ⟨hP, hLn, hLA, hI, hS⟩ := h
  have hD := zj_D (F := F) hLn hLA
  obtain ⟨i0, hi0⟩ := va_pl_get (X := []) (f := F) h0L
  have he := va_pl_set (X := []) (e := .inr (t, fs.set j v)) hD h0L hi0
  rw [hF] at hi0
  rw [List.nil_append, List.nil_append] at he
  refine va_put (ws := va_pl L F) hx hb hts hin ty0 hty hnm hown hK hP hD hS i0 hi0 hc j hj (hts _ hlink) hsame hfin (hty j hj) hn hfit hl hdg (fun H1 locs1 q1 _ q3 => kk (va_up F h0 (.inr (t, fs.set j v))) H1 locs1 (va_up_self _ _ _) (fun a ha => va_up_ne F _ ha) ⟨by rw [← he]; exact q1, hLn, hLA, ?_, q3⟩)
  intro a t' hat
  have hne : a ≠ h0 := fun h => by rw [h, h0Γ] at hat; cases hat
  obtain ⟨g1, g2, g3⟩ := hI a t' hat
  refine ⟨g1, fun h => ?_, fun h => ?_⟩
  · obtain ⟨fs', k1, k2, k3⟩ := g2 h
    refine ⟨fs', by rw [va_up_ne F _ hne]; exact k1, k2, fun i x hx => ?_⟩
    have e9 : zfld (va_up F h0 (.inr (t, fs.set j v))) a i = zfld F a i := by
      unfold zfld
      rw [va_up_ne F _ hne]
    rw [e9]
    exact k3 i x hx
  · have := g3 h
    unfold zAr at this ⊢
    rw [va_up_ne F _ hne]
    exact this
theorem zj_new {C : String} {T : u_T} {N t index idx2 mc ms maxL : Nat} {y : MethodName} {bytes : ByteArray} {ws : List Cond} {rm : Room} (Y : zY p m c cc nL s args Ts own D k A) (h : zU D k A s Γ L F H locs) (hin : ∀ w ∈ u_ws C T N, w ∈ Ts) (ty : Nat → FieldType) (hty : ∀ k, k < N → parseFieldDescriptor (T k).2.2.1 = some (ty k)) (hcl : Cond.classLink own index C ∈ Ts) (hinst : Cond.instantiable C N ∈ Ts) (hini : Cond.initialized C ∈ Ts) (hc : z_Cl[t]? = some (C, T, N)) {fs : List Value} (hfs : ∀ j, j < N → defaultValue (ty j) = vp_V fs j) {post : Nat → zW3 → Prop} (hM : ∀ q sz : Nat, Met l y ws rm (va_Pc [.ref q] (zPi D k t fs q sz)) (va_Qv (fun u : zW3 => u.1 q = some t ∧ post q u) (zQi D k (zA0 q sz)) (zA0 q sz)) mc ms (zA0 q sz)) (cw : CallB R s args own idx2 y bytes maxL none ws rm mc ms 0 ∧ y.name = "<init>" ∧ (Cond.instanceMethod y).before args s = true)
    (hsz : ls.size = nL) (hW : ((Value.ref 0 :: rest).map fun v => v.category).sum ≤ 8) (hcells : cells + 1 + mc ≤ R.cells) (hslots : slots + N + ms ≤ R.slots) (hdg0 : decode cc pc = .ok (.new index, 3)) (hdg1 : decode cc (pc + 3) = .ok (.dup, 1)) (hdg2 : decode cc (pc + 3 + 1) = .ok (.invokespecial idx2, 3))
    (kk : ∀ (q : Nat) (Γ2 : Nat → Option Nat) (L2 : List Nat) (F2 : Nat → va_E) (Γ' : Nat → Option Nat) (L' : List Nat) (F' : Nat → va_E) (H1 : Heap) (locs1 : List Loc), Γ' q = some t → Γ2 q = some t → post q (Γ2, L2, F2) → zInv Γ2 k L2 F2 → (∀ a, a ∈ L → Γ' a = Γ a ∧ F' a = F a ∧ a ∈ L' ∧ a ∉ L2) → (∀ a, a ∈ L2 → Γ' a = Γ2 a ∧ F' a = F2 a ∧ a ∈ L') → (∀ a, a ∈ L' → a ∈ L ∨ a ∈ L2) → (∀ a t, Γ2 a = some t → Γ' a = some t) → zU D k A s Γ' L' F' H1 locs1 → W p l e R s m args below meth c H1 locs1 (cells + 1 + mc) (slots + N + ms) Q (F0 m (pc + 3 + 1 + 3) ls (.ref q :: rest))) : W p l e R s m args below meth c H locs cells slots Q (F0 m pc ls rest) := by
  obtain ⟨⟨hx, hb, hml, hown, hts⟩, hK, hN0, hZ, hA⟩ := Y
  have h9 := h
  obtain ⟨hP, hLn, hLA, hI, hS⟩ := h
  refine va_new hx hb hts hin ty hty hown (hts _ hcl) (hts _ hinst) (hts _ hini) hK hP (zj_D hLn hLA) hS hA hc hfs (by omega) (by omega) hdg0 (fun q H1 hP1 hD1 hS1 => ?_)
  obtain ⟨hq, hAq⟩ := zj_nd hD1
  refine lv_dup hx hb hdg1 rfl ?_
  refine va_callv (va_runI (As := []) (rest := .ref q :: rest) ⟨hx, hb, hml, hown, hts⟩ (hM q H1.size) cw ⟨zi_blind, zi_pre hP1 hK hN0 hZ hS1 hAq hA⟩ rfl rfl hsz rfl (lv_room hW) hdg2 ⟨hcells, hslots⟩) hS1 (fun x _ hx9 => hx9.elim (fun h => by rw [h]; exact hAq) (fun h => hA x (Nat.le_trans hS1.1 h))) (fun x hx9 => hx9.elim (fun h => by rw [h]; exact hAq) (fun h => hA x (Nat.le_trans hS1.1 h))) (fun u t2 H2 locs2 ht _ hp hB hz hk hS2 => ?_)
  obtain ⟨g1, g2, g3, g4⟩ := hB
  have h1 : zU D k A s Γ L F H1 locs := ⟨fun j x hj => hP1 j x (by rw [List.getElem?_append_left (List.getElem?_eq_some_iff.mp hj).1]; exact hj), hLn, hLA, hI, hS1⟩
  obtain ⟨hd, hU⟩ := zj_merge h1 hq hAq hA hz hk hS2 (by rw [← ht]; exact g1) g2 g3 g4
  have hj := hI.join g4 hd
  exact kk q u.1 u.2.1 u.2.2 _ _ _ H2 locs2 (hj.2.2 _ _ hp.1) hp.1 hp.2 g4 (fun a ha => ⟨if_neg (hd a ha), if_neg (hd a ha), List.mem_append_left _ ha, hd a ha⟩) (fun a ha => ⟨if_pos ha, if_pos ha, List.mem_append_right _ ha⟩) (fun a ha => List.mem_append.mp ha) hj.2.2 hU
theorem zj_newN {C host : String} {T : u_T} {N t index idx2 mc ms maxL : Nat} {y : MethodName} {bytes : ByteArray} {ws : List Cond} {rm : Room} (Y : zY p m c cc nL s args Ts own D k A) (h : zU D k A s Γ L F H locs) (hin : ∀ w ∈ u_ws C T N, w ∈ Ts) (ty : Nat → FieldType) (hty : ∀ k, k < N → parseFieldDescriptor (T k).2.2.1 = some (ty k)) (hcl : Cond.classLink own index C ∈ Ts) (hinst : Cond.instantiable C N ∈ Ts) (hini : Cond.initialized C ∈ Ts) (hc : z_Cl[t]? = some (C, T, N)) {fs : List Value} (hfs : ∀ j, j < N → defaultValue (ty j) = vp_V fs j) {post : Nat → zW3 → Prop} (hM : ∀ q sz : Nat, Met l y ws rm (va_Pc [.ref q] (zPi D k t fs q sz)) (va_Qv (fun u : zW3 => u.1 q = some t ∧ post q u) (zQi D k (zA0 q sz)) (zA0 q sz)) mc ms (zA0 q sz)) (cw : va_CN R s args own idx2 y host bytes maxL none ws rm mc ms 0 ∧ y.name = "<init>" ∧ (Cond.instanceMethod y).before args s = true)
    (hsz : ls.size = nL) (hW : ((Value.ref 0 :: rest).map fun v => v.category).sum ≤ 8) (hcells : cells + 1 + mc ≤ R.cells) (hslots : slots + N + ms ≤ R.slots) (hdg0 : decode cc pc = .ok (.new index, 3)) (hdg1 : decode cc (pc + 3) = .ok (.dup, 1)) (hdg2 : decode cc (pc + 3 + 1) = .ok (.invokespecial idx2, 3))
    (kk : ∀ (q : Nat) (Γ2 : Nat → Option Nat) (L2 : List Nat) (F2 : Nat → va_E) (Γ' : Nat → Option Nat) (L' : List Nat) (F' : Nat → va_E) (H1 : Heap) (locs1 : List Loc), Γ' q = some t → Γ2 q = some t → post q (Γ2, L2, F2) → zInv Γ2 k L2 F2 → (∀ a, a ∈ L → Γ' a = Γ a ∧ F' a = F a ∧ a ∈ L' ∧ a ∉ L2) → (∀ a, a ∈ L2 → Γ' a = Γ2 a ∧ F' a = F2 a ∧ a ∈ L') → (∀ a, a ∈ L' → a ∈ L ∨ a ∈ L2) → (∀ a t, Γ2 a = some t → Γ' a = some t) → zU D k A s Γ' L' F' H1 locs1 → W p l e R s m args below meth c H1 locs1 (cells + 1 + mc) (slots + N + ms) Q (F0 m (pc + 3 + 1 + 3) ls (.ref q :: rest))) : W p l e R s m args below meth c H locs cells slots Q (F0 m pc ls rest) := by
  obtain ⟨⟨hx, hb, hml, hown, hts⟩, hK, hN0, hZ, hA⟩ := Y
  have h9 := h
  obtain ⟨hP, hLn, hLA, hI, hS⟩ := h
  refine va_new hx hb hts hin ty hty hown (hts _ hcl) (hts _ hinst) (hts _ hini) hK hP (zj_D hLn hLA) hS hA hc hfs (by omega) (by omega) hdg0 (fun q H1 hP1 hD1 hS1 => ?_)
  obtain ⟨hq, hAq⟩ := zj_nd hD1
  refine lv_dup hx hb hdg1 rfl ?_
  refine va_callv (va_runIN (As := []) (rest := .ref q :: rest) ⟨hx, hb, hml, hown, hts⟩ (hM q H1.size) cw ⟨zi_blind, zi_pre hP1 hK hN0 hZ hS1 hAq hA⟩ rfl rfl hsz rfl (lv_room hW) hdg2 ⟨hcells, hslots⟩) hS1 (fun x _ hx9 => hx9.elim (fun h => by rw [h]; exact hAq) (fun h => hA x (Nat.le_trans hS1.1 h))) (fun x hx9 => hx9.elim (fun h => by rw [h]; exact hAq) (fun h => hA x (Nat.le_trans hS1.1 h))) (fun u t2 H2 locs2 ht _ hp hB hz hk hS2 => ?_)
  obtain ⟨g1, g2, g3, g4⟩ := hB
  have h1 : zU D k A s Γ L F H1 locs := ⟨fun j x hj => hP1 j x (by rw [List.getElem?_append_left (List.getElem?_eq_some_iff.mp hj).1]; exact hj), hLn, hLA, hI, hS1⟩
  obtain ⟨hd, hU⟩ := zj_merge h1 hq hAq hA hz hk hS2 (by rw [← ht]; exact g1) g2 g3 g4
  have hj := hI.join g4 hd
  exact kk q u.1 u.2.1 u.2.2 _ _ _ H2 locs2 (hj.2.2 _ _ hp.1) hp.1 hp.2 g4 (fun a ha => ⟨if_neg (hd a ha), if_neg (hd a ha), List.mem_append_left _ ha, hd a ha⟩) (fun a ha => ⟨if_pos ha, if_pos ha, List.mem_append_right _ ha⟩) (fun a ha => List.mem_append.mp ha) hj.2.2 hU
end
theorem zar_z {Γ' : Nat → Option Nat} {k : Nat → ClassId} {F' : Nat → va_E} {q tc κ n : Nat} {lo hi : Int} (hκ : κ < 2) (hq : zas tc = (κ, n, lo, hi)) (h0 : lo ≤ 0 ∧ 0 ≤ hi) (hF : F' q = .inl (k κ, n, .inl (fun _ => 0))) : zAr Γ' k F' q tc := by
  unfold zAr
  rw [hq]
  have hz : zB lo hi 0 := ⟨by have : (0 : Int32).toInt = 0 := (by decide); omega, by have : (0 : Int32).toInt = 0 := (by decide); omega⟩
  have hκ2 : κ = 0 ∨ κ = 1 := by omega
  rcases hκ2 with rfl | rfl
  · exact ⟨fun _ => 0, hF, fun _ _ => hz⟩
  · exact ⟨fun _ => 0, hF, fun _ _ => hz⟩
theorem zar_l {Γ' : Nat → Option Nat} {k : Nat → ClassId} {F' : Nat → va_E} {q tc n : Nat} {lo hi : Int} (hq : zas tc = (2, n, lo, hi)) (hF : F' q = .inl (k 2, n, .inr (.inl (fun _ => 0)))) : zAr Γ' k F' q tc := by
  unfold zAr
  rw [hq]
  exact ⟨fun _ => 0, hF⟩
theorem zif {Γ : Nat → Option Nat} {b h0 t c : Nat} (hb : Γ b = some c) (h0Γ : Γ h0 = none) : (if b = h0 then some t else Γ b) = some c := by
  have : b ≠ h0 := fun h => by rw [h, h0Γ] at hb; cases hb
  rw [if_neg this]
  exact hb
theorem zfam_add {Γ Γ' : Nat → Option Nat} {L : List Nat} {h0 q tc : Nat} (h : ∀ a ∈ L, a = h0 ∨ ∃ t, Γ a = some t ∧ 124 ≤ t ∧ t ≤ 149) (hk : ∀ a ∈ L, Γ' a = Γ a) (hq : Γ' q = some tc) (ht : 124 ≤ tc ∧ tc ≤ 149) : ∀ a ∈ L ++ [q], a = h0 ∨ ∃ t, Γ' a = some t ∧ 124 ≤ t ∧ t ≤ 149 := by
  intro a ha
  rcases List.mem_append.mp ha with h1 | h1
  · rcases h a h1 with h2 | ⟨t, h2, h3⟩
    · exact Or.inl h2
    · exact Or.inr ⟨t, by rw [hk a h1]; exact h2, h3⟩
  · rw [List.mem_singleton.mp h1]
    exact Or.inr ⟨tc, hq, ht⟩
section
variable {p : Program} {l : Launch} {e : Env} {R : Room} {s : State} {m : MethodId} {args : Array Value} {below : List Frame} {meth : Method} {c : Code} {H : Heap} {locs : List Loc} {cells slots : Nat} {Q : State → Prop}
variable {cc : ByteArray} {pc nL : Nat} {ls : Array Slot} {rest st0 : List Value} {D : va_G} {k : Nat → ClassId} {Γ : Nat → Option Nat} {L : List Nat} {F : Nat → va_E} {Ts : List Cond} {own : String} {A : Nat → Prop}
theorem zj_ar (Y : zY p m c cc nL s args Ts own D k A) (h : zU D k A s Γ L F H locs) {atype : ArrayType} {ty : FieldType} {κ tc N' : Nat} {n : Int32} {a0 : vp_A} (harr : Cond.arrayClass (newarray.typeOf atype) ∈ Ts) (hty : newarray.typeOf atype = ty) (hκ : (zT k)[κ]? = some (k κ, ty)) (hra : ∀ c, va_RA s c ty → s.vm.findClass ("[" ++ ty.toString) = some c) (ha : ∀ cA : ClassId, vp_cell cA a0 = arrV cA N' (fun _ => defaultValue ty)) (hn : ¬ n < 0) (hN : n.toNatClampNeg = N') (hbytes : N' * componentBytes ty ≤ 536870912) (hcells : cells + 1 ≤ R.cells) (hslots : slots + N' ≤ R.slots) (htc : 100 ≤ tc) (hz : ∀ (Γ' : Nat → Option Nat) (F' : Nat → va_E) (q : Nat), F' q = .inl (k κ, a0) → zAr Γ' k F' q tc) (hdg : decode cc pc = .ok (.newarray atype, 2))
    (kk : ∀ (q : Nat) (Γ' : Nat → Option Nat) (L' : List Nat) (F' : Nat → va_E) (H1 : Heap), Γ' q = some tc → (∀ a, a ∈ L → Γ' a = Γ a ∧ F' a = F a ∧ a ∈ L') → (∀ a, a ∈ L' → a ∈ L ∨ a = q) → zU D k A s Γ' L' F' H1 locs → W p l e R s m args below meth c H1 locs (cells + 1) (slots + N') Q (F0 m (pc + 2) ls (.ref q :: rest))) : W p l e R s m args below meth c H locs cells slots Q (F0 m pc ls (.int n :: rest)) :=
  zj_arr Y h (Y.1.2.2.2.2 _ harr) hty hκ hra ha hn hN hbytes hcells hslots htc hz hdg (fun q Γ' F' H1 _ h1 _ h3 h4 => kk q Γ' (L ++ [q]) F' H1 h1 (fun a ha => ⟨(h3 a ha).1, (h3 a ha).2, List.mem_append_left _ ha⟩) (fun a ha => (List.mem_append.mp ha).imp id List.mem_singleton.mp) h4)
end
